theorem k0_0 : mm_at 0 0 = some (.new 7, 3, 11, .null) := by decide +kernel
theorem k0_3 : mm_at 0 3 = some (.dup, 4, 0, .null) := by decide +kernel
theorem k0_4 : mm_at 0 4 = some (.invokespecial 9, 7, 0, .null) := by decide +kernel
theorem k0_7 : mm_at 0 7 = some (.astore_n 1, 8, 1, .null) := by decide +kernel
theorem k0_8 : mm_at 0 8 = some (.new 10, 11, 12, .null) := by decide +kernel
theorem k0_11 : mm_at 0 11 = some (.dup, 12, 0, .null) := by decide +kernel
theorem k0_12 : mm_at 0 12 = some (.invokespecial 12, 15, 1, .null) := by decide +kernel
theorem k0_15 : mm_at 0 15 = some (.astore_n 2, 16, 2, .null) := by decide +kernel
theorem k0_16 : mm_at 0 16 = some (.iconst 0, 17, 0, .int (0)) := by decide +kernel
theorem k0_17 : mm_at 0 17 = some (.istore_n 3, 18, 3, .null) := by decide +kernel
theorem k0_18 : mm_at 0 18 = some (.iload_n 3, 19, 3, .null) := by decide +kernel
theorem k0_19 : mm_at 0 19 = some (.aload_n 0, 20, 0, .null) := by decide +kernel
theorem k0_20 : mm_at 0 20 = some (.arraylength, 21, 0, .null) := by decide +kernel
theorem k0_21 : mm_at 0 21 = some (.bipush 6, 23, 0, .int (6)) := by decide +kernel
theorem k0_23 : mm_at 0 23 = some (.isub, 24, 0, .null) := by decide +kernel
theorem k0_24 : mm_at 0 24 = some (.if_icmp .gt 1380, 27, 1404, .null) := by decide +kernel
theorem k0_27 : mm_at 0 27 = some (.aload_n 0, 28, 0, .null) := by decide +kernel
theorem k0_28 : mm_at 0 28 = some (.iload_n 3, 29, 3, .null) := by decide +kernel
theorem k0_29 : mm_at 0 29 = some (.iaload, 30, 0, .null) := by decide +kernel
theorem k0_30 : mm_at 0 30 = some (.bipush 63, 32, 0, .int (63)) := by decide +kernel
theorem k0_32 : mm_at 0 32 = some (.iand, 33, 0, .null) := by decide +kernel
theorem k0_33 : mm_at 0 33 = some (.tableswitch 1365 0 39 #[175, 208, 241, 284, 317, 350, 373, 406, 449, 482, 545, 568, 621, 654, 687, 700, 723, 746, 779, 802, 825, 848, 871, 904, 927, 960, 973, 996, 1039, 1062, 1105, 1148, 1211, 1234, 1257, 1270, 1283, 1306, 1319, 1342], 208, 0, .null) := by decide +kernel
theorem k0_208 : mm_at 0 208 = some (.aload_n 1, 209, 1, .null) := by decide +kernel
theorem k0_209 : mm_at 0 209 = some (.aload_n 0, 210, 0, .null) := by decide +kernel
theorem k0_210 : mm_at 0 210 = some (.iload_n 3, 211, 3, .null) := by decide +kernel
theorem k0_211 : mm_at 0 211 = some (.iconst 1, 212, 0, .int (1)) := by decide +kernel
theorem k0_212 : mm_at 0 212 = some (.iadd, 213, 0, .null) := by decide +kernel
theorem k0_213 : mm_at 0 213 = some (.iaload, 214, 0, .null) := by decide +kernel
theorem k0_214 : mm_at 0 214 = some (.aload_n 0, 215, 0, .null) := by decide +kernel
theorem k0_215 : mm_at 0 215 = some (.iload_n 3, 216, 3, .null) := by decide +kernel
theorem k0_216 : mm_at 0 216 = some (.iconst 2, 217, 0, .int (2)) := by decide +kernel
theorem k0_217 : mm_at 0 217 = some (.iadd, 218, 0, .null) := by decide +kernel
theorem k0_218 : mm_at 0 218 = some (.iaload, 219, 0, .null) := by decide +kernel
theorem k0_219 : mm_at 0 219 = some (.invokevirtual 13, 222, 2, .null) := by decide +kernel
theorem k0_222 : mm_at 0 222 = some (.aload_n 2, 223, 2, .null) := by decide +kernel
theorem k0_223 : mm_at 0 223 = some (.aload_n 0, 224, 0, .null) := by decide +kernel
theorem k0_224 : mm_at 0 224 = some (.iload_n 3, 225, 3, .null) := by decide +kernel
theorem k0_225 : mm_at 0 225 = some (.iconst 1, 226, 0, .int (1)) := by decide +kernel
theorem k0_226 : mm_at 0 226 = some (.iadd, 227, 0, .null) := by decide +kernel
theorem k0_227 : mm_at 0 227 = some (.iaload, 228, 0, .null) := by decide +kernel
theorem k0_228 : mm_at 0 228 = some (.aload_n 0, 229, 0, .null) := by decide +kernel
theorem k0_229 : mm_at 0 229 = some (.iload_n 3, 230, 3, .null) := by decide +kernel
theorem k0_230 : mm_at 0 230 = some (.iconst 2, 231, 0, .int (2)) := by decide +kernel
theorem k0_231 : mm_at 0 231 = some (.iadd, 232, 0, .null) := by decide +kernel
theorem k0_232 : mm_at 0 232 = some (.iaload, 233, 0, .null) := by decide +kernel
theorem k0_233 : mm_at 0 233 = some (.invokevirtual 17, 236, 3, .null) := by decide +kernel
theorem k0_236 : mm_at 0 236 = some (.if_icmp .eq 1162, 239, 1398, .null) := by decide +kernel
theorem k0_239 : mm_at 0 239 = some (.iconst 0, 240, 0, .int (0)) := by decide +kernel
theorem k0_240 : mm_at 0 240 = some (.ireturn, 241, 0, .null) := by decide +kernel
theorem k0_241 : mm_at 0 241 = some (.aload_n 1, 242, 1, .null) := by decide +kernel
theorem k0_242 : mm_at 0 242 = some (.aload_n 0, 243, 0, .null) := by decide +kernel
theorem k0_243 : mm_at 0 243 = some (.iload_n 3, 244, 3, .null) := by decide +kernel
theorem k0_244 : mm_at 0 244 = some (.iconst 1, 245, 0, .int (1)) := by decide +kernel
theorem k0_245 : mm_at 0 245 = some (.iadd, 246, 0, .null) := by decide +kernel
theorem k0_246 : mm_at 0 246 = some (.iaload, 247, 0, .null) := by decide +kernel
theorem k0_247 : mm_at 0 247 = some (.aload_n 0, 248, 0, .null) := by decide +kernel
theorem k0_248 : mm_at 0 248 = some (.iload_n 3, 249, 3, .null) := by decide +kernel
theorem k0_249 : mm_at 0 249 = some (.iconst 2, 250, 0, .int (2)) := by decide +kernel
theorem k0_250 : mm_at 0 250 = some (.iadd, 251, 0, .null) := by decide +kernel
theorem k0_251 : mm_at 0 251 = some (.iaload, 252, 0, .null) := by decide +kernel
theorem k0_252 : mm_at 0 252 = some (.invokevirtual 18, 255, 4, .null) := by decide +kernel
theorem k0_255 : mm_at 0 255 = some (.aload_n 2, 256, 2, .null) := by decide +kernel
theorem k0_256 : mm_at 0 256 = some (.aload_n 0, 257, 0, .null) := by decide +kernel
theorem k0_257 : mm_at 0 257 = some (.iload_n 3, 258, 3, .null) := by decide +kernel
theorem k0_258 : mm_at 0 258 = some (.iconst 1, 259, 0, .int (1)) := by decide +kernel
theorem k0_259 : mm_at 0 259 = some (.iadd, 260, 0, .null) := by decide +kernel
theorem k0_260 : mm_at 0 260 = some (.iaload, 261, 0, .null) := by decide +kernel
theorem k0_261 : mm_at 0 261 = some (.aload_n 0, 262, 0, .null) := by decide +kernel
theorem k0_262 : mm_at 0 262 = some (.iload_n 3, 263, 3, .null) := by decide +kernel
theorem k0_263 : mm_at 0 263 = some (.iconst 2, 264, 0, .int (2)) := by decide +kernel
theorem k0_264 : mm_at 0 264 = some (.iadd, 265, 0, .null) := by decide +kernel
theorem k0_265 : mm_at 0 265 = some (.iaload, 266, 0, .null) := by decide +kernel
theorem k0_266 : mm_at 0 266 = some (.invokevirtual 21, 269, 5, .null) := by decide +kernel
theorem k0_269 : mm_at 0 269 = some (.if_icmp .eq 1129, 272, 1398, .null) := by decide +kernel
theorem k0_272 : mm_at 0 272 = some (.iconst 0, 273, 0, .int (0)) := by decide +kernel
theorem k0_273 : mm_at 0 273 = some (.ireturn, 274, 0, .null) := by decide +kernel
theorem k0_274 : mm_at 0 274 = some (.aload_n 1, 275, 1, .null) := by decide +kernel
theorem k0_275 : mm_at 0 275 = some (.aload_n 0, 276, 0, .null) := by decide +kernel
theorem k0_276 : mm_at 0 276 = some (.iload_n 3, 277, 3, .null) := by decide +kernel
theorem k0_277 : mm_at 0 277 = some (.iconst 1, 278, 0, .int (1)) := by decide +kernel
theorem k0_278 : mm_at 0 278 = some (.iadd, 279, 0, .null) := by decide +kernel
theorem k0_279 : mm_at 0 279 = some (.iaload, 280, 0, .null) := by decide +kernel
theorem k0_280 : mm_at 0 280 = some (.aload_n 0, 281, 0, .null) := by decide +kernel
theorem k0_281 : mm_at 0 281 = some (.iload_n 3, 282, 3, .null) := by decide +kernel
theorem k0_282 : mm_at 0 282 = some (.iconst 2, 283, 0, .int (2)) := by decide +kernel
theorem k0_283 : mm_at 0 283 = some (.iadd, 284, 0, .null) := by decide +kernel
theorem k0_284 : mm_at 0 284 = some (.iaload, 285, 0, .null) := by decide +kernel
theorem k0_285 : mm_at 0 285 = some (.aload_n 0, 286, 0, .null) := by decide +kernel
theorem k0_286 : mm_at 0 286 = some (.iload_n 3, 287, 3, .null) := by decide +kernel
theorem k0_287 : mm_at 0 287 = some (.iconst 3, 288, 0, .int (3)) := by decide +kernel
theorem k0_288 : mm_at 0 288 = some (.iadd, 289, 0, .null) := by decide +kernel
theorem k0_289 : mm_at 0 289 = some (.iaload, 290, 0, .null) := by decide +kernel
theorem k0_290 : mm_at 0 290 = some (.invokevirtual 22, 293, 6, .null) := by decide +kernel
theorem k0_293 : mm_at 0 293 = some (.aload_n 2, 294, 2, .null) := by decide +kernel
theorem k0_294 : mm_at 0 294 = some (.aload_n 0, 295, 0, .null) := by decide +kernel
theorem k0_295 : mm_at 0 295 = some (.iload_n 3, 296, 3, .null) := by decide +kernel
theorem k0_296 : mm_at 0 296 = some (.iconst 1, 297, 0, .int (1)) := by decide +kernel
theorem k0_297 : mm_at 0 297 = some (.iadd, 298, 0, .null) := by decide +kernel
theorem k0_298 : mm_at 0 298 = some (.iaload, 299, 0, .null) := by decide +kernel
theorem k0_299 : mm_at 0 299 = some (.aload_n 0, 300, 0, .null) := by decide +kernel
theorem k0_300 : mm_at 0 300 = some (.iload_n 3, 301, 3, .null) := by decide +kernel
theorem k0_301 : mm_at 0 301 = some (.iconst 2, 302, 0, .int (2)) := by decide +kernel
theorem k0_302 : mm_at 0 302 = some (.iadd, 303, 0, .null) := by decide +kernel
theorem k0_303 : mm_at 0 303 = some (.iaload, 304, 0, .null) := by decide +kernel
theorem k0_304 : mm_at 0 304 = some (.aload_n 0, 305, 0, .null) := by decide +kernel
theorem k0_305 : mm_at 0 305 = some (.iload_n 3, 306, 3, .null) := by decide +kernel
theorem k0_306 : mm_at 0 306 = some (.iconst 3, 307, 0, .int (3)) := by decide +kernel
theorem k0_307 : mm_at 0 307 = some (.iadd, 308, 0, .null) := by decide +kernel
theorem k0_308 : mm_at 0 308 = some (.iaload, 309, 0, .null) := by decide +kernel
theorem k0_309 : mm_at 0 309 = some (.invokevirtual 26, 312, 7, .null) := by decide +kernel
theorem k0_312 : mm_at 0 312 = some (.if_icmp .eq 1086, 315, 1398, .null) := by decide +kernel
theorem k0_315 : mm_at 0 315 = some (.iconst 0, 316, 0, .int (0)) := by decide +kernel
theorem k0_316 : mm_at 0 316 = some (.ireturn, 317, 0, .null) := by decide +kernel
theorem k0_317 : mm_at 0 317 = some (.aload_n 1, 318, 1, .null) := by decide +kernel
theorem k0_318 : mm_at 0 318 = some (.aload_n 0, 319, 0, .null) := by decide +kernel
theorem k0_319 : mm_at 0 319 = some (.iload_n 3, 320, 3, .null) := by decide +kernel
theorem k0_320 : mm_at 0 320 = some (.iconst 1, 321, 0, .int (1)) := by decide +kernel
theorem k0_321 : mm_at 0 321 = some (.iadd, 322, 0, .null) := by decide +kernel
theorem k0_322 : mm_at 0 322 = some (.iaload, 323, 0, .null) := by decide +kernel
theorem k0_323 : mm_at 0 323 = some (.aload_n 0, 324, 0, .null) := by decide +kernel
theorem k0_324 : mm_at 0 324 = some (.iload_n 3, 325, 3, .null) := by decide +kernel
theorem k0_325 : mm_at 0 325 = some (.iconst 2, 326, 0, .int (2)) := by decide +kernel
theorem k0_326 : mm_at 0 326 = some (.iadd, 327, 0, .null) := by decide +kernel
theorem k0_327 : mm_at 0 327 = some (.iaload, 328, 0, .null) := by decide +kernel
theorem k0_328 : mm_at 0 328 = some (.invokevirtual 27, 331, 8, .null) := by decide +kernel
theorem k0_331 : mm_at 0 331 = some (.aload_n 2, 332, 2, .null) := by decide +kernel
theorem k0_332 : mm_at 0 332 = some (.aload_n 0, 333, 0, .null) := by decide +kernel
theorem k0_333 : mm_at 0 333 = some (.iload_n 3, 334, 3, .null) := by decide +kernel
theorem k0_334 : mm_at 0 334 = some (.iconst 1, 335, 0, .int (1)) := by decide +kernel
theorem k0_335 : mm_at 0 335 = some (.iadd, 336, 0, .null) := by decide +kernel
theorem k0_336 : mm_at 0 336 = some (.iaload, 337, 0, .null) := by decide +kernel
theorem k0_337 : mm_at 0 337 = some (.aload_n 0, 338, 0, .null) := by decide +kernel
theorem k0_338 : mm_at 0 338 = some (.iload_n 3, 339, 3, .null) := by decide +kernel
theorem k0_339 : mm_at 0 339 = some (.iconst 2, 340, 0, .int (2)) := by decide +kernel
theorem k0_340 : mm_at 0 340 = some (.iadd, 341, 0, .null) := by decide +kernel
theorem k0_341 : mm_at 0 341 = some (.iaload, 342, 0, .null) := by decide +kernel
theorem k0_342 : mm_at 0 342 = some (.invokevirtual 30, 345, 9, .null) := by decide +kernel
theorem k0_345 : mm_at 0 345 = some (.if_icmp .eq 1053, 348, 1398, .null) := by decide +kernel
theorem k0_348 : mm_at 0 348 = some (.iconst 0, 349, 0, .int (0)) := by decide +kernel
theorem k0_349 : mm_at 0 349 = some (.ireturn, 350, 0, .null) := by decide +kernel
theorem k0_350 : mm_at 0 350 = some (.aload_n 1, 351, 1, .null) := by decide +kernel
theorem k0_351 : mm_at 0 351 = some (.aload_n 0, 352, 0, .null) := by decide +kernel
theorem k0_352 : mm_at 0 352 = some (.iload_n 3, 353, 3, .null) := by decide +kernel
theorem k0_353 : mm_at 0 353 = some (.iconst 1, 354, 0, .int (1)) := by decide +kernel
theorem k0_354 : mm_at 0 354 = some (.iadd, 355, 0, .null) := by decide +kernel
theorem k0_355 : mm_at 0 355 = some (.iaload, 356, 0, .null) := by decide +kernel
theorem k0_356 : mm_at 0 356 = some (.aload_n 0, 357, 0, .null) := by decide +kernel
theorem k0_357 : mm_at 0 357 = some (.iload_n 3, 358, 3, .null) := by decide +kernel
theorem k0_358 : mm_at 0 358 = some (.iconst 2, 359, 0, .int (2)) := by decide +kernel
theorem k0_359 : mm_at 0 359 = some (.iadd, 360, 0, .null) := by decide +kernel
theorem k0_360 : mm_at 0 360 = some (.iaload, 361, 0, .null) := by decide +kernel
theorem k0_361 : mm_at 0 361 = some (.invokevirtual 31, 364, 10, .null) := by decide +kernel
theorem k0_364 : mm_at 0 364 = some (.aload_n 2, 365, 2, .null) := by decide +kernel
theorem k0_365 : mm_at 0 365 = some (.aload_n 0, 366, 0, .null) := by decide +kernel
theorem k0_366 : mm_at 0 366 = some (.iload_n 3, 367, 3, .null) := by decide +kernel
theorem k0_367 : mm_at 0 367 = some (.iconst 1, 368, 0, .int (1)) := by decide +kernel
theorem k0_368 : mm_at 0 368 = some (.iadd, 369, 0, .null) := by decide +kernel
theorem k0_369 : mm_at 0 369 = some (.iaload, 370, 0, .null) := by decide +kernel
theorem k0_370 : mm_at 0 370 = some (.aload_n 0, 371, 0, .null) := by decide +kernel
theorem k0_371 : mm_at 0 371 = some (.iload_n 3, 372, 3, .null) := by decide +kernel
theorem k0_372 : mm_at 0 372 = some (.iconst 2, 373, 0, .int (2)) := by decide +kernel
theorem k0_373 : mm_at 0 373 = some (.iadd, 374, 0, .null) := by decide +kernel
theorem k0_374 : mm_at 0 374 = some (.iaload, 375, 0, .null) := by decide +kernel
theorem k0_375 : mm_at 0 375 = some (.invokevirtual 34, 378, 11, .null) := by decide +kernel
theorem k0_378 : mm_at 0 378 = some (.if_icmp .eq 1020, 381, 1398, .null) := by decide +kernel
theorem k0_381 : mm_at 0 381 = some (.iconst 0, 382, 0, .int (0)) := by decide +kernel
theorem k0_382 : mm_at 0 382 = some (.ireturn, 383, 0, .null) := by decide +kernel
theorem k0_383 : mm_at 0 383 = some (.aload_n 1, 384, 1, .null) := by decide +kernel
theorem k0_384 : mm_at 0 384 = some (.aload_n 0, 385, 0, .null) := by decide +kernel
theorem k0_385 : mm_at 0 385 = some (.iload_n 3, 386, 3, .null) := by decide +kernel
theorem k0_386 : mm_at 0 386 = some (.iconst 1, 387, 0, .int (1)) := by decide +kernel
theorem k0_387 : mm_at 0 387 = some (.iadd, 388, 0, .null) := by decide +kernel
theorem k0_388 : mm_at 0 388 = some (.iaload, 389, 0, .null) := by decide +kernel
theorem k0_389 : mm_at 0 389 = some (.invokevirtual 35, 392, 12, .null) := by decide +kernel
theorem k0_392 : mm_at 0 392 = some (.aload_n 2, 393, 2, .null) := by decide +kernel
theorem k0_393 : mm_at 0 393 = some (.aload_n 0, 394, 0, .null) := by decide +kernel
theorem k0_394 : mm_at 0 394 = some (.iload_n 3, 395, 3, .null) := by decide +kernel
theorem k0_395 : mm_at 0 395 = some (.iconst 1, 396, 0, .int (1)) := by decide +kernel
theorem k0_396 : mm_at 0 396 = some (.iadd, 397, 0, .null) := by decide +kernel
theorem k0_397 : mm_at 0 397 = some (.iaload, 398, 0, .null) := by decide +kernel
theorem k0_398 : mm_at 0 398 = some (.invokevirtual 39, 401, 13, .null) := by decide +kernel
theorem k0_401 : mm_at 0 401 = some (.if_icmp .eq 997, 404, 1398, .null) := by decide +kernel
theorem k0_404 : mm_at 0 404 = some (.iconst 0, 405, 0, .int (0)) := by decide +kernel
theorem k0_405 : mm_at 0 405 = some (.ireturn, 406, 0, .null) := by decide +kernel
theorem k0_406 : mm_at 0 406 = some (.aload_n 1, 407, 1, .null) := by decide +kernel
theorem k0_407 : mm_at 0 407 = some (.aload_n 0, 408, 0, .null) := by decide +kernel
theorem k0_408 : mm_at 0 408 = some (.iload_n 3, 409, 3, .null) := by decide +kernel
theorem k0_409 : mm_at 0 409 = some (.iconst 1, 410, 0, .int (1)) := by decide +kernel
theorem k0_410 : mm_at 0 410 = some (.iadd, 411, 0, .null) := by decide +kernel
theorem k0_411 : mm_at 0 411 = some (.iaload, 412, 0, .null) := by decide +kernel
theorem k0_412 : mm_at 0 412 = some (.aload_n 0, 413, 0, .null) := by decide +kernel
theorem k0_413 : mm_at 0 413 = some (.iload_n 3, 414, 3, .null) := by decide +kernel
theorem k0_414 : mm_at 0 414 = some (.iconst 2, 415, 0, .int (2)) := by decide +kernel
theorem k0_415 : mm_at 0 415 = some (.iadd, 416, 0, .null) := by decide +kernel
theorem k0_416 : mm_at 0 416 = some (.iaload, 417, 0, .null) := by decide +kernel
theorem k0_417 : mm_at 0 417 = some (.invokevirtual 40, 420, 14, .null) := by decide +kernel
theorem k0_420 : mm_at 0 420 = some (.aload_n 2, 421, 2, .null) := by decide +kernel
theorem k0_421 : mm_at 0 421 = some (.aload_n 0, 422, 0, .null) := by decide +kernel
theorem k0_422 : mm_at 0 422 = some (.iload_n 3, 423, 3, .null) := by decide +kernel
theorem k0_423 : mm_at 0 423 = some (.iconst 1, 424, 0, .int (1)) := by decide +kernel
theorem k0_424 : mm_at 0 424 = some (.iadd, 425, 0, .null) := by decide +kernel
theorem k0_425 : mm_at 0 425 = some (.iaload, 426, 0, .null) := by decide +kernel
theorem k0_426 : mm_at 0 426 = some (.aload_n 0, 427, 0, .null) := by decide +kernel
theorem k0_427 : mm_at 0 427 = some (.iload_n 3, 428, 3, .null) := by decide +kernel
theorem k0_428 : mm_at 0 428 = some (.iconst 2, 429, 0, .int (2)) := by decide +kernel
theorem k0_429 : mm_at 0 429 = some (.iadd, 430, 0, .null) := by decide +kernel
theorem k0_430 : mm_at 0 430 = some (.iaload, 431, 0, .null) := by decide +kernel
theorem k0_431 : mm_at 0 431 = some (.invokevirtual 43, 434, 15, .null) := by decide +kernel
theorem k0_434 : mm_at 0 434 = some (.if_icmp .eq 964, 437, 1398, .null) := by decide +kernel
theorem k0_437 : mm_at 0 437 = some (.iconst 0, 438, 0, .int (0)) := by decide +kernel
theorem k0_438 : mm_at 0 438 = some (.ireturn, 439, 0, .null) := by decide +kernel
theorem k0_439 : mm_at 0 439 = some (.aload_n 1, 440, 1, .null) := by decide +kernel
theorem k0_440 : mm_at 0 440 = some (.aload_n 0, 441, 0, .null) := by decide +kernel
theorem k0_441 : mm_at 0 441 = some (.iload_n 3, 442, 3, .null) := by decide +kernel
theorem k0_442 : mm_at 0 442 = some (.iconst 1, 443, 0, .int (1)) := by decide +kernel
theorem k0_443 : mm_at 0 443 = some (.iadd, 444, 0, .null) := by decide +kernel
theorem k0_444 : mm_at 0 444 = some (.iaload, 445, 0, .null) := by decide +kernel
theorem k0_445 : mm_at 0 445 = some (.aload_n 0, 446, 0, .null) := by decide +kernel
theorem k0_446 : mm_at 0 446 = some (.iload_n 3, 447, 3, .null) := by decide +kernel
theorem k0_447 : mm_at 0 447 = some (.iconst 2, 448, 0, .int (2)) := by decide +kernel
theorem k0_448 : mm_at 0 448 = some (.iadd, 449, 0, .null) := by decide +kernel
theorem k0_449 : mm_at 0 449 = some (.iaload, 450, 0, .null) := by decide +kernel
theorem k0_450 : mm_at 0 450 = some (.aload_n 0, 451, 0, .null) := by decide +kernel
theorem k0_451 : mm_at 0 451 = some (.iload_n 3, 452, 3, .null) := by decide +kernel
theorem k0_452 : mm_at 0 452 = some (.iconst 3, 453, 0, .int (3)) := by decide +kernel
theorem k0_453 : mm_at 0 453 = some (.iadd, 454, 0, .null) := by decide +kernel
theorem k0_454 : mm_at 0 454 = some (.iaload, 455, 0, .null) := by decide +kernel
theorem k0_455 : mm_at 0 455 = some (.invokevirtual 44, 458, 16, .null) := by decide +kernel
theorem k0_458 : mm_at 0 458 = some (.aload_n 2, 459, 2, .null) := by decide +kernel
theorem k0_459 : mm_at 0 459 = some (.aload_n 0, 460, 0, .null) := by decide +kernel
theorem k0_460 : mm_at 0 460 = some (.iload_n 3, 461, 3, .null) := by decide +kernel
theorem k0_461 : mm_at 0 461 = some (.iconst 1, 462, 0, .int (1)) := by decide +kernel
theorem k0_462 : mm_at 0 462 = some (.iadd, 463, 0, .null) := by decide +kernel
theorem k0_463 : mm_at 0 463 = some (.iaload, 464, 0, .null) := by decide +kernel
theorem k0_464 : mm_at 0 464 = some (.aload_n 0, 465, 0, .null) := by decide +kernel
theorem k0_465 : mm_at 0 465 = some (.iload_n 3, 466, 3, .null) := by decide +kernel
theorem k0_466 : mm_at 0 466 = some (.iconst 2, 467, 0, .int (2)) := by decide +kernel
theorem k0_467 : mm_at 0 467 = some (.iadd, 468, 0, .null) := by decide +kernel
theorem k0_468 : mm_at 0 468 = some (.iaload, 469, 0, .null) := by decide +kernel
theorem k0_469 : mm_at 0 469 = some (.aload_n 0, 470, 0, .null) := by decide +kernel
theorem k0_470 : mm_at 0 470 = some (.iload_n 3, 471, 3, .null) := by decide +kernel
theorem k0_471 : mm_at 0 471 = some (.iconst 3, 472, 0, .int (3)) := by decide +kernel
theorem k0_472 : mm_at 0 472 = some (.iadd, 473, 0, .null) := by decide +kernel
theorem k0_473 : mm_at 0 473 = some (.iaload, 474, 0, .null) := by decide +kernel
theorem k0_474 : mm_at 0 474 = some (.invokevirtual 47, 477, 17, .null) := by decide +kernel
theorem k0_477 : mm_at 0 477 = some (.if_icmp .eq 921, 480, 1398, .null) := by decide +kernel
theorem k0_480 : mm_at 0 480 = some (.iconst 0, 481, 0, .int (0)) := by decide +kernel
theorem k0_481 : mm_at 0 481 = some (.ireturn, 482, 0, .null) := by decide +kernel
theorem k0_482 : mm_at 0 482 = some (.aload_n 1, 483, 1, .null) := by decide +kernel
theorem k0_483 : mm_at 0 483 = some (.aload_n 0, 484, 0, .null) := by decide +kernel
theorem k0_484 : mm_at 0 484 = some (.iload_n 3, 485, 3, .null) := by decide +kernel
theorem k0_485 : mm_at 0 485 = some (.iconst 1, 486, 0, .int (1)) := by decide +kernel
theorem k0_486 : mm_at 0 486 = some (.iadd, 487, 0, .null) := by decide +kernel
theorem k0_487 : mm_at 0 487 = some (.iaload, 488, 0, .null) := by decide +kernel
theorem k0_488 : mm_at 0 488 = some (.aload_n 0, 489, 0, .null) := by decide +kernel
theorem k0_489 : mm_at 0 489 = some (.iload_n 3, 490, 3, .null) := by decide +kernel
theorem k0_490 : mm_at 0 490 = some (.iconst 2, 491, 0, .int (2)) := by decide +kernel
theorem k0_491 : mm_at 0 491 = some (.iadd, 492, 0, .null) := by decide +kernel
theorem k0_492 : mm_at 0 492 = some (.iaload, 493, 0, .null) := by decide +kernel
theorem k0_493 : mm_at 0 493 = some (.invokevirtual 48, 496, 18, .null) := by decide +kernel
theorem k0_496 : mm_at 0 496 = some (.aload_n 2, 497, 2, .null) := by decide +kernel
theorem k0_497 : mm_at 0 497 = some (.aload_n 0, 498, 0, .null) := by decide +kernel
theorem k0_498 : mm_at 0 498 = some (.iload_n 3, 499, 3, .null) := by decide +kernel
theorem k0_499 : mm_at 0 499 = some (.iconst 1, 500, 0, .int (1)) := by decide +kernel
theorem k0_500 : mm_at 0 500 = some (.iadd, 501, 0, .null) := by decide +kernel
theorem k0_501 : mm_at 0 501 = some (.iaload, 502, 0, .null) := by decide +kernel
theorem k0_502 : mm_at 0 502 = some (.aload_n 0, 503, 0, .null) := by decide +kernel
theorem k0_503 : mm_at 0 503 = some (.iload_n 3, 504, 3, .null) := by decide +kernel
theorem k0_504 : mm_at 0 504 = some (.iconst 2, 505, 0, .int (2)) := by decide +kernel
theorem k0_505 : mm_at 0 505 = some (.iadd, 506, 0, .null) := by decide +kernel
theorem k0_506 : mm_at 0 506 = some (.iaload, 507, 0, .null) := by decide +kernel
theorem k0_507 : mm_at 0 507 = some (.invokevirtual 51, 510, 19, .null) := by decide +kernel
theorem k0_510 : mm_at 0 510 = some (.if_icmp .eq 888, 513, 1398, .null) := by decide +kernel
theorem k0_513 : mm_at 0 513 = some (.iconst 0, 514, 0, .int (0)) := by decide +kernel
theorem k0_514 : mm_at 0 514 = some (.ireturn, 515, 0, .null) := by decide +kernel
theorem k0_515 : mm_at 0 515 = some (.aload_n 1, 516, 1, .null) := by decide +kernel
theorem k0_516 : mm_at 0 516 = some (.aload_n 0, 517, 0, .null) := by decide +kernel
theorem k0_517 : mm_at 0 517 = some (.iload_n 3, 518, 3, .null) := by decide +kernel
theorem k0_518 : mm_at 0 518 = some (.iconst 1, 519, 0, .int (1)) := by decide +kernel
theorem k0_519 : mm_at 0 519 = some (.iadd, 520, 0, .null) := by decide +kernel
theorem k0_520 : mm_at 0 520 = some (.iaload, 521, 0, .null) := by decide +kernel
theorem k0_521 : mm_at 0 521 = some (.i2l, 522, 0, .null) := by decide +kernel
theorem k0_522 : mm_at 0 522 = some (.bipush 32, 524, 0, .int (32)) := by decide +kernel
theorem k0_524 : mm_at 0 524 = some (.lshl, 525, 0, .null) := by decide +kernel
theorem k0_525 : mm_at 0 525 = some (.aload_n 0, 526, 0, .null) := by decide +kernel
theorem k0_526 : mm_at 0 526 = some (.iload_n 3, 527, 3, .null) := by decide +kernel
theorem k0_527 : mm_at 0 527 = some (.iconst 2, 528, 0, .int (2)) := by decide +kernel
theorem k0_528 : mm_at 0 528 = some (.iadd, 529, 0, .null) := by decide +kernel
theorem k0_529 : mm_at 0 529 = some (.iaload, 530, 0, .null) := by decide +kernel
theorem k0_530 : mm_at 0 530 = some (.i2l, 531, 0, .null) := by decide +kernel
theorem k0_531 : mm_at 0 531 = some (.ldc2_w 52, 534, 0, .long (4294967295)) := by decide +kernel
theorem k0_534 : mm_at 0 534 = some (.land, 535, 0, .null) := by decide +kernel
theorem k0_535 : mm_at 0 535 = some (.lor, 536, 0, .null) := by decide +kernel
theorem k0_536 : mm_at 0 536 = some (.aload_n 0, 537, 0, .null) := by decide +kernel
theorem k0_537 : mm_at 0 537 = some (.iload_n 3, 538, 3, .null) := by decide +kernel
theorem k0_538 : mm_at 0 538 = some (.iconst 3, 539, 0, .int (3)) := by decide +kernel
theorem k0_539 : mm_at 0 539 = some (.iadd, 540, 0, .null) := by decide +kernel
theorem k0_540 : mm_at 0 540 = some (.iaload, 541, 0, .null) := by decide +kernel
theorem k0_541 : mm_at 0 541 = some (.invokevirtual 54, 544, 20, .null) := by decide +kernel
theorem k0_544 : mm_at 0 544 = some (.aload_n 2, 545, 2, .null) := by decide +kernel
theorem k0_545 : mm_at 0 545 = some (.aload_n 0, 546, 0, .null) := by decide +kernel
theorem k0_546 : mm_at 0 546 = some (.iload_n 3, 547, 3, .null) := by decide +kernel
theorem k0_547 : mm_at 0 547 = some (.iconst 1, 548, 0, .int (1)) := by decide +kernel
theorem k0_548 : mm_at 0 548 = some (.iadd, 549, 0, .null) := by decide +kernel
theorem k0_549 : mm_at 0 549 = some (.iaload, 550, 0, .null) := by decide +kernel
theorem k0_550 : mm_at 0 550 = some (.i2l, 551, 0, .null) := by decide +kernel
theorem k0_551 : mm_at 0 551 = some (.bipush 32, 553, 0, .int (32)) := by decide +kernel
theorem k0_553 : mm_at 0 553 = some (.lshl, 554, 0, .null) := by decide +kernel
theorem k0_554 : mm_at 0 554 = some (.aload_n 0, 555, 0, .null) := by decide +kernel
theorem k0_555 : mm_at 0 555 = some (.iload_n 3, 556, 3, .null) := by decide +kernel
theorem k0_556 : mm_at 0 556 = some (.iconst 2, 557, 0, .int (2)) := by decide +kernel
theorem k0_557 : mm_at 0 557 = some (.iadd, 558, 0, .null) := by decide +kernel
theorem k0_558 : mm_at 0 558 = some (.iaload, 559, 0, .null) := by decide +kernel
theorem k0_559 : mm_at 0 559 = some (.i2l, 560, 0, .null) := by decide +kernel
theorem k0_560 : mm_at 0 560 = some (.ldc2_w 52, 563, 0, .long (4294967295)) := by decide +kernel
theorem k0_563 : mm_at 0 563 = some (.land, 564, 0, .null) := by decide +kernel
theorem k0_564 : mm_at 0 564 = some (.lor, 565, 0, .null) := by decide +kernel
theorem k0_565 : mm_at 0 565 = some (.aload_n 0, 566, 0, .null) := by decide +kernel
theorem k0_566 : mm_at 0 566 = some (.iload_n 3, 567, 3, .null) := by decide +kernel
theorem k0_567 : mm_at 0 567 = some (.iconst 3, 568, 0, .int (3)) := by decide +kernel
theorem k0_568 : mm_at 0 568 = some (.iadd, 569, 0, .null) := by decide +kernel
theorem k0_569 : mm_at 0 569 = some (.iaload, 570, 0, .null) := by decide +kernel
theorem k0_570 : mm_at 0 570 = some (.invokevirtual 58, 573, 21, .null) := by decide +kernel
theorem k0_573 : mm_at 0 573 = some (.if_icmp .eq 825, 576, 1398, .null) := by decide +kernel
theorem k0_576 : mm_at 0 576 = some (.iconst 0, 577, 0, .int (0)) := by decide +kernel
theorem k0_577 : mm_at 0 577 = some (.ireturn, 578, 0, .null) := by decide +kernel
theorem k0_578 : mm_at 0 578 = some (.aload_n 1, 579, 1, .null) := by decide +kernel
theorem k0_579 : mm_at 0 579 = some (.aload_n 0, 580, 0, .null) := by decide +kernel
theorem k0_580 : mm_at 0 580 = some (.iload_n 3, 581, 3, .null) := by decide +kernel
theorem k0_581 : mm_at 0 581 = some (.iconst 1, 582, 0, .int (1)) := by decide +kernel
theorem k0_582 : mm_at 0 582 = some (.iadd, 583, 0, .null) := by decide +kernel
theorem k0_583 : mm_at 0 583 = some (.iaload, 584, 0, .null) := by decide +kernel
theorem k0_584 : mm_at 0 584 = some (.invokevirtual 59, 587, 22, .null) := by decide +kernel
theorem k0_587 : mm_at 0 587 = some (.aload_n 2, 588, 2, .null) := by decide +kernel
theorem k0_588 : mm_at 0 588 = some (.aload_n 0, 589, 0, .null) := by decide +kernel
theorem k0_589 : mm_at 0 589 = some (.iload_n 3, 590, 3, .null) := by decide +kernel
theorem k0_590 : mm_at 0 590 = some (.iconst 1, 591, 0, .int (1)) := by decide +kernel
theorem k0_591 : mm_at 0 591 = some (.iadd, 592, 0, .null) := by decide +kernel
theorem k0_592 : mm_at 0 592 = some (.iaload, 593, 0, .null) := by decide +kernel
theorem k0_593 : mm_at 0 593 = some (.invokevirtual 62, 596, 23, .null) := by decide +kernel
theorem k0_596 : mm_at 0 596 = some (.if_icmp .eq 802, 599, 1398, .null) := by decide +kernel
theorem k0_599 : mm_at 0 599 = some (.iconst 0, 600, 0, .int (0)) := by decide +kernel
theorem k0_600 : mm_at 0 600 = some (.ireturn, 601, 0, .null) := by decide +kernel
theorem k0_601 : mm_at 0 601 = some (.aload_n 1, 602, 1, .null) := by decide +kernel
theorem k0_602 : mm_at 0 602 = some (.aload_n 0, 603, 0, .null) := by decide +kernel
theorem k0_603 : mm_at 0 603 = some (.iload_n 3, 604, 3, .null) := by decide +kernel
theorem k0_604 : mm_at 0 604 = some (.iconst 1, 605, 0, .int (1)) := by decide +kernel
theorem k0_605 : mm_at 0 605 = some (.iadd, 606, 0, .null) := by decide +kernel
theorem k0_606 : mm_at 0 606 = some (.iaload, 607, 0, .null) := by decide +kernel
theorem k0_607 : mm_at 0 607 = some (.aload_n 0, 608, 0, .null) := by decide +kernel
theorem k0_608 : mm_at 0 608 = some (.iload_n 3, 609, 3, .null) := by decide +kernel
theorem k0_609 : mm_at 0 609 = some (.iconst 2, 610, 0, .int (2)) := by decide +kernel
theorem k0_610 : mm_at 0 610 = some (.iadd, 611, 0, .null) := by decide +kernel
theorem k0_611 : mm_at 0 611 = some (.iaload, 612, 0, .null) := by decide +kernel
theorem k0_612 : mm_at 0 612 = some (.aload_n 0, 613, 0, .null) := by decide +kernel
theorem k0_613 : mm_at 0 613 = some (.iload_n 3, 614, 3, .null) := by decide +kernel
theorem k0_614 : mm_at 0 614 = some (.iconst 3, 615, 0, .int (3)) := by decide +kernel
theorem k0_615 : mm_at 0 615 = some (.iadd, 616, 0, .null) := by decide +kernel
theorem k0_616 : mm_at 0 616 = some (.iaload, 617, 0, .null) := by decide +kernel
theorem k0_617 : mm_at 0 617 = some (.aload_n 0, 618, 0, .null) := by decide +kernel
theorem k0_618 : mm_at 0 618 = some (.iload_n 3, 619, 3, .null) := by decide +kernel
theorem k0_619 : mm_at 0 619 = some (.iconst 4, 620, 0, .int (4)) := by decide +kernel
theorem k0_620 : mm_at 0 620 = some (.iadd, 621, 0, .null) := by decide +kernel
theorem k0_621 : mm_at 0 621 = some (.iaload, 622, 0, .null) := by decide +kernel
theorem k0_622 : mm_at 0 622 = some (.invokevirtual 63, 625, 24, .null) := by decide +kernel
theorem k0_625 : mm_at 0 625 = some (.aload_n 2, 626, 2, .null) := by decide +kernel
theorem k0_626 : mm_at 0 626 = some (.aload_n 0, 627, 0, .null) := by decide +kernel
theorem k0_627 : mm_at 0 627 = some (.iload_n 3, 628, 3, .null) := by decide +kernel
theorem k0_628 : mm_at 0 628 = some (.iconst 1, 629, 0, .int (1)) := by decide +kernel
theorem k0_629 : mm_at 0 629 = some (.iadd, 630, 0, .null) := by decide +kernel
theorem k0_630 : mm_at 0 630 = some (.iaload, 631, 0, .null) := by decide +kernel
theorem k0_631 : mm_at 0 631 = some (.aload_n 0, 632, 0, .null) := by decide +kernel
theorem k0_632 : mm_at 0 632 = some (.iload_n 3, 633, 3, .null) := by decide +kernel
theorem k0_633 : mm_at 0 633 = some (.iconst 2, 634, 0, .int (2)) := by decide +kernel
theorem k0_634 : mm_at 0 634 = some (.iadd, 635, 0, .null) := by decide +kernel
theorem k0_635 : mm_at 0 635 = some (.iaload, 636, 0, .null) := by decide +kernel
theorem k0_636 : mm_at 0 636 = some (.aload_n 0, 637, 0, .null) := by decide +kernel
theorem k0_637 : mm_at 0 637 = some (.iload_n 3, 638, 3, .null) := by decide +kernel
theorem k0_638 : mm_at 0 638 = some (.iconst 3, 639, 0, .int (3)) := by decide +kernel
theorem k0_639 : mm_at 0 639 = some (.iadd, 640, 0, .null) := by decide +kernel
theorem k0_640 : mm_at 0 640 = some (.iaload, 641, 0, .null) := by decide +kernel
theorem k0_641 : mm_at 0 641 = some (.aload_n 0, 642, 0, .null) := by decide +kernel
theorem k0_642 : mm_at 0 642 = some (.iload_n 3, 643, 3, .null) := by decide +kernel
theorem k0_643 : mm_at 0 643 = some (.iconst 4, 644, 0, .int (4)) := by decide +kernel
theorem k0_644 : mm_at 0 644 = some (.iadd, 645, 0, .null) := by decide +kernel
theorem k0_645 : mm_at 0 645 = some (.iaload, 646, 0, .null) := by decide +kernel
theorem k0_646 : mm_at 0 646 = some (.invokevirtual 67, 649, 25, .null) := by decide +kernel
theorem k0_649 : mm_at 0 649 = some (.if_icmp .eq 749, 652, 1398, .null) := by decide +kernel
theorem k0_652 : mm_at 0 652 = some (.iconst 0, 653, 0, .int (0)) := by decide +kernel
theorem k0_653 : mm_at 0 653 = some (.ireturn, 654, 0, .null) := by decide +kernel
theorem k0_654 : mm_at 0 654 = some (.aload_n 1, 655, 1, .null) := by decide +kernel
theorem k0_655 : mm_at 0 655 = some (.aload_n 0, 656, 0, .null) := by decide +kernel
theorem k0_656 : mm_at 0 656 = some (.iload_n 3, 657, 3, .null) := by decide +kernel
theorem k0_657 : mm_at 0 657 = some (.iconst 1, 658, 0, .int (1)) := by decide +kernel
theorem k0_658 : mm_at 0 658 = some (.iadd, 659, 0, .null) := by decide +kernel
theorem k0_659 : mm_at 0 659 = some (.iaload, 660, 0, .null) := by decide +kernel
theorem k0_660 : mm_at 0 660 = some (.aload_n 0, 661, 0, .null) := by decide +kernel
theorem k0_661 : mm_at 0 661 = some (.iload_n 3, 662, 3, .null) := by decide +kernel
theorem k0_662 : mm_at 0 662 = some (.iconst 2, 663, 0, .int (2)) := by decide +kernel
theorem k0_663 : mm_at 0 663 = some (.iadd, 664, 0, .null) := by decide +kernel
theorem k0_664 : mm_at 0 664 = some (.iaload, 665, 0, .null) := by decide +kernel
theorem k0_665 : mm_at 0 665 = some (.invokevirtual 68, 668, 26, .null) := by decide +kernel
theorem k0_668 : mm_at 0 668 = some (.aload_n 2, 669, 2, .null) := by decide +kernel
theorem k0_669 : mm_at 0 669 = some (.aload_n 0, 670, 0, .null) := by decide +kernel
theorem k0_670 : mm_at 0 670 = some (.iload_n 3, 671, 3, .null) := by decide +kernel
theorem k0_671 : mm_at 0 671 = some (.iconst 1, 672, 0, .int (1)) := by decide +kernel
theorem k0_672 : mm_at 0 672 = some (.iadd, 673, 0, .null) := by decide +kernel
theorem k0_673 : mm_at 0 673 = some (.iaload, 674, 0, .null) := by decide +kernel
theorem k0_674 : mm_at 0 674 = some (.aload_n 0, 675, 0, .null) := by decide +kernel
theorem k0_675 : mm_at 0 675 = some (.iload_n 3, 676, 3, .null) := by decide +kernel
theorem k0_676 : mm_at 0 676 = some (.iconst 2, 677, 0, .int (2)) := by decide +kernel
theorem k0_677 : mm_at 0 677 = some (.iadd, 678, 0, .null) := by decide +kernel
theorem k0_678 : mm_at 0 678 = some (.iaload, 679, 0, .null) := by decide +kernel
theorem k0_679 : mm_at 0 679 = some (.invokevirtual 71, 682, 27, .null) := by decide +kernel
theorem k0_682 : mm_at 0 682 = some (.if_icmp .eq 716, 685, 1398, .null) := by decide +kernel
theorem k0_685 : mm_at 0 685 = some (.iconst 0, 686, 0, .int (0)) := by decide +kernel
theorem k0_686 : mm_at 0 686 = some (.ireturn, 687, 0, .null) := by decide +kernel
theorem k0_687 : mm_at 0 687 = some (.aload_n 1, 688, 1, .null) := by decide +kernel
theorem k0_688 : mm_at 0 688 = some (.aload_n 0, 689, 0, .null) := by decide +kernel
theorem k0_689 : mm_at 0 689 = some (.iload_n 3, 690, 3, .null) := by decide +kernel
theorem k0_690 : mm_at 0 690 = some (.iconst 1, 691, 0, .int (1)) := by decide +kernel
theorem k0_691 : mm_at 0 691 = some (.iadd, 692, 0, .null) := by decide +kernel
theorem k0_692 : mm_at 0 692 = some (.iaload, 693, 0, .null) := by decide +kernel
theorem k0_693 : mm_at 0 693 = some (.aload_n 0, 694, 0, .null) := by decide +kernel
theorem k0_694 : mm_at 0 694 = some (.iload_n 3, 695, 3, .null) := by decide +kernel
theorem k0_695 : mm_at 0 695 = some (.iconst 2, 696, 0, .int (2)) := by decide +kernel
theorem k0_696 : mm_at 0 696 = some (.iadd, 697, 0, .null) := by decide +kernel
theorem k0_697 : mm_at 0 697 = some (.iaload, 698, 0, .null) := by decide +kernel
theorem k0_698 : mm_at 0 698 = some (.invokevirtual 72, 701, 28, .null) := by decide +kernel
theorem k0_701 : mm_at 0 701 = some (.aload_n 2, 702, 2, .null) := by decide +kernel
theorem k0_702 : mm_at 0 702 = some (.aload_n 0, 703, 0, .null) := by decide +kernel
theorem k0_703 : mm_at 0 703 = some (.iload_n 3, 704, 3, .null) := by decide +kernel
theorem k0_704 : mm_at 0 704 = some (.iconst 1, 705, 0, .int (1)) := by decide +kernel
theorem k0_705 : mm_at 0 705 = some (.iadd, 706, 0, .null) := by decide +kernel
theorem k0_706 : mm_at 0 706 = some (.iaload, 707, 0, .null) := by decide +kernel
theorem k0_707 : mm_at 0 707 = some (.aload_n 0, 708, 0, .null) := by decide +kernel
theorem k0_708 : mm_at 0 708 = some (.iload_n 3, 709, 3, .null) := by decide +kernel
theorem k0_709 : mm_at 0 709 = some (.iconst 2, 710, 0, .int (2)) := by decide +kernel
theorem k0_710 : mm_at 0 710 = some (.iadd, 711, 0, .null) := by decide +kernel
theorem k0_711 : mm_at 0 711 = some (.iaload, 712, 0, .null) := by decide +kernel
theorem k0_712 : mm_at 0 712 = some (.invokevirtual 75, 715, 29, .null) := by decide +kernel
theorem k0_715 : mm_at 0 715 = some (.if_icmp .eq 683, 718, 1398, .null) := by decide +kernel
theorem k0_718 : mm_at 0 718 = some (.iconst 0, 719, 0, .int (0)) := by decide +kernel
theorem k0_719 : mm_at 0 719 = some (.ireturn, 720, 0, .null) := by decide +kernel
theorem k0_720 : mm_at 0 720 = some (.aload_n 1, 721, 1, .null) := by decide +kernel
theorem k0_721 : mm_at 0 721 = some (.invokevirtual 76, 724, 30, .null) := by decide +kernel
theorem k0_724 : mm_at 0 724 = some (.aload_n 2, 725, 2, .null) := by decide +kernel
theorem k0_725 : mm_at 0 725 = some (.invokevirtual 80, 728, 31, .null) := by decide +kernel
theorem k0_728 : mm_at 0 728 = some (.if_icmp .eq 670, 731, 1398, .null) := by decide +kernel
theorem k0_731 : mm_at 0 731 = some (.iconst 0, 732, 0, .int (0)) := by decide +kernel
theorem k0_732 : mm_at 0 732 = some (.ireturn, 733, 0, .null) := by decide +kernel
theorem k0_733 : mm_at 0 733 = some (.aload_n 1, 734, 1, .null) := by decide +kernel
theorem k0_734 : mm_at 0 734 = some (.aload_n 0, 735, 0, .null) := by decide +kernel
theorem k0_735 : mm_at 0 735 = some (.iload_n 3, 736, 3, .null) := by decide +kernel
theorem k0_736 : mm_at 0 736 = some (.iconst 1, 737, 0, .int (1)) := by decide +kernel
theorem k0_737 : mm_at 0 737 = some (.iadd, 738, 0, .null) := by decide +kernel
theorem k0_738 : mm_at 0 738 = some (.iaload, 739, 0, .null) := by decide +kernel
theorem k0_739 : mm_at 0 739 = some (.invokevirtual 81, 742, 32, .null) := by decide +kernel
theorem k0_742 : mm_at 0 742 = some (.aload_n 2, 743, 2, .null) := by decide +kernel
theorem k0_743 : mm_at 0 743 = some (.aload_n 0, 744, 0, .null) := by decide +kernel
theorem k0_744 : mm_at 0 744 = some (.iload_n 3, 745, 3, .null) := by decide +kernel
theorem k0_745 : mm_at 0 745 = some (.iconst 1, 746, 0, .int (1)) := by decide +kernel
theorem k0_746 : mm_at 0 746 = some (.iadd, 747, 0, .null) := by decide +kernel
theorem k0_747 : mm_at 0 747 = some (.iaload, 748, 0, .null) := by decide +kernel
theorem k0_748 : mm_at 0 748 = some (.invokevirtual 84, 751, 33, .null) := by decide +kernel
theorem k0_751 : mm_at 0 751 = some (.if_icmp .eq 647, 754, 1398, .null) := by decide +kernel
theorem k0_754 : mm_at 0 754 = some (.iconst 0, 755, 0, .int (0)) := by decide +kernel
theorem k0_755 : mm_at 0 755 = some (.ireturn, 756, 0, .null) := by decide +kernel
theorem k0_756 : mm_at 0 756 = some (.aload_n 1, 757, 1, .null) := by decide +kernel
theorem k0_757 : mm_at 0 757 = some (.aload_n 0, 758, 0, .null) := by decide +kernel
theorem k0_758 : mm_at 0 758 = some (.iload_n 3, 759, 3, .null) := by decide +kernel
theorem k0_759 : mm_at 0 759 = some (.iconst 1, 760, 0, .int (1)) := by decide +kernel
theorem k0_760 : mm_at 0 760 = some (.iadd, 761, 0, .null) := by decide +kernel
theorem k0_761 : mm_at 0 761 = some (.iaload, 762, 0, .null) := by decide +kernel
theorem k0_762 : mm_at 0 762 = some (.invokevirtual 85, 765, 34, .null) := by decide +kernel
theorem k0_765 : mm_at 0 765 = some (.aload_n 2, 766, 2, .null) := by decide +kernel
theorem k0_766 : mm_at 0 766 = some (.aload_n 0, 767, 0, .null) := by decide +kernel
theorem k0_767 : mm_at 0 767 = some (.iload_n 3, 768, 3, .null) := by decide +kernel
theorem k0_768 : mm_at 0 768 = some (.iconst 1, 769, 0, .int (1)) := by decide +kernel
theorem k0_769 : mm_at 0 769 = some (.iadd, 770, 0, .null) := by decide +kernel
theorem k0_770 : mm_at 0 770 = some (.iaload, 771, 0, .null) := by decide +kernel
theorem k0_771 : mm_at 0 771 = some (.invokevirtual 88, 774, 35, .null) := by decide +kernel
theorem k0_774 : mm_at 0 774 = some (.if_icmp .eq 624, 777, 1398, .null) := by decide +kernel
theorem k0_777 : mm_at 0 777 = some (.iconst 0, 778, 0, .int (0)) := by decide +kernel
theorem k0_778 : mm_at 0 778 = some (.ireturn, 779, 0, .null) := by decide +kernel
theorem k0_779 : mm_at 0 779 = some (.aload_n 1, 780, 1, .null) := by decide +kernel
theorem k0_780 : mm_at 0 780 = some (.aload_n 0, 781, 0, .null) := by decide +kernel
theorem k0_781 : mm_at 0 781 = some (.iload_n 3, 782, 3, .null) := by decide +kernel
theorem k0_782 : mm_at 0 782 = some (.iconst 1, 783, 0, .int (1)) := by decide +kernel
theorem k0_783 : mm_at 0 783 = some (.iadd, 784, 0, .null) := by decide +kernel
theorem k0_784 : mm_at 0 784 = some (.iaload, 785, 0, .null) := by decide +kernel
theorem k0_785 : mm_at 0 785 = some (.aload_n 0, 786, 0, .null) := by decide +kernel
theorem k0_786 : mm_at 0 786 = some (.iload_n 3, 787, 3, .null) := by decide +kernel
theorem k0_787 : mm_at 0 787 = some (.iconst 2, 788, 0, .int (2)) := by decide +kernel
theorem k0_788 : mm_at 0 788 = some (.iadd, 789, 0, .null) := by decide +kernel
theorem k0_789 : mm_at 0 789 = some (.iaload, 790, 0, .null) := by decide +kernel
theorem k0_790 : mm_at 0 790 = some (.invokevirtual 89, 793, 36, .null) := by decide +kernel
theorem k0_793 : mm_at 0 793 = some (.aload_n 2, 794, 2, .null) := by decide +kernel
theorem k0_794 : mm_at 0 794 = some (.aload_n 0, 795, 0, .null) := by decide +kernel
theorem k0_795 : mm_at 0 795 = some (.iload_n 3, 796, 3, .null) := by decide +kernel
theorem k0_796 : mm_at 0 796 = some (.iconst 1, 797, 0, .int (1)) := by decide +kernel
theorem k0_797 : mm_at 0 797 = some (.iadd, 798, 0, .null) := by decide +kernel
theorem k0_798 : mm_at 0 798 = some (.iaload, 799, 0, .null) := by decide +kernel
theorem k0_799 : mm_at 0 799 = some (.aload_n 0, 800, 0, .null) := by decide +kernel
theorem k0_800 : mm_at 0 800 = some (.iload_n 3, 801, 3, .null) := by decide +kernel
theorem k0_801 : mm_at 0 801 = some (.iconst 2, 802, 0, .int (2)) := by decide +kernel
theorem k0_802 : mm_at 0 802 = some (.iadd, 803, 0, .null) := by decide +kernel
theorem k0_803 : mm_at 0 803 = some (.iaload, 804, 0, .null) := by decide +kernel
theorem k0_804 : mm_at 0 804 = some (.invokevirtual 92, 807, 37, .null) := by decide +kernel
theorem k0_807 : mm_at 0 807 = some (.if_icmp .eq 591, 810, 1398, .null) := by decide +kernel
theorem k0_810 : mm_at 0 810 = some (.iconst 0, 811, 0, .int (0)) := by decide +kernel
theorem k0_811 : mm_at 0 811 = some (.ireturn, 812, 0, .null) := by decide +kernel
theorem k0_812 : mm_at 0 812 = some (.aload_n 1, 813, 1, .null) := by decide +kernel
theorem k0_813 : mm_at 0 813 = some (.aload_n 0, 814, 0, .null) := by decide +kernel
theorem k0_814 : mm_at 0 814 = some (.iload_n 3, 815, 3, .null) := by decide +kernel
theorem k0_815 : mm_at 0 815 = some (.iconst 1, 816, 0, .int (1)) := by decide +kernel
theorem k0_816 : mm_at 0 816 = some (.iadd, 817, 0, .null) := by decide +kernel
theorem k0_817 : mm_at 0 817 = some (.iaload, 818, 0, .null) := by decide +kernel
theorem k0_818 : mm_at 0 818 = some (.invokevirtual 93, 821, 38, .null) := by decide +kernel
theorem k0_821 : mm_at 0 821 = some (.aload_n 2, 822, 2, .null) := by decide +kernel
theorem k0_822 : mm_at 0 822 = some (.aload_n 0, 823, 0, .null) := by decide +kernel
theorem k0_823 : mm_at 0 823 = some (.iload_n 3, 824, 3, .null) := by decide +kernel
theorem k0_824 : mm_at 0 824 = some (.iconst 1, 825, 0, .int (1)) := by decide +kernel
theorem k0_825 : mm_at 0 825 = some (.iadd, 826, 0, .null) := by decide +kernel
theorem k0_826 : mm_at 0 826 = some (.iaload, 827, 0, .null) := by decide +kernel
theorem k0_827 : mm_at 0 827 = some (.invokevirtual 96, 830, 39, .null) := by decide +kernel
theorem k0_830 : mm_at 0 830 = some (.if_icmp .eq 568, 833, 1398, .null) := by decide +kernel
theorem k0_833 : mm_at 0 833 = some (.iconst 0, 834, 0, .int (0)) := by decide +kernel
theorem k0_834 : mm_at 0 834 = some (.ireturn, 835, 0, .null) := by decide +kernel
theorem k0_835 : mm_at 0 835 = some (.aload_n 1, 836, 1, .null) := by decide +kernel
theorem k0_836 : mm_at 0 836 = some (.aload_n 0, 837, 0, .null) := by decide +kernel
theorem k0_837 : mm_at 0 837 = some (.iload_n 3, 838, 3, .null) := by decide +kernel
theorem k0_838 : mm_at 0 838 = some (.iconst 1, 839, 0, .int (1)) := by decide +kernel
theorem k0_839 : mm_at 0 839 = some (.iadd, 840, 0, .null) := by decide +kernel
theorem k0_840 : mm_at 0 840 = some (.iaload, 841, 0, .null) := by decide +kernel
theorem k0_841 : mm_at 0 841 = some (.invokevirtual 97, 844, 40, .null) := by decide +kernel
theorem k0_844 : mm_at 0 844 = some (.aload_n 2, 845, 2, .null) := by decide +kernel
theorem k0_845 : mm_at 0 845 = some (.aload_n 0, 846, 0, .null) := by decide +kernel
theorem k0_846 : mm_at 0 846 = some (.iload_n 3, 847, 3, .null) := by decide +kernel
theorem k0_847 : mm_at 0 847 = some (.iconst 1, 848, 0, .int (1)) := by decide +kernel
theorem k0_848 : mm_at 0 848 = some (.iadd, 849, 0, .null) := by decide +kernel
theorem k0_849 : mm_at 0 849 = some (.iaload, 850, 0, .null) := by decide +kernel
theorem k0_850 : mm_at 0 850 = some (.invokevirtual 100, 853, 41, .null) := by decide +kernel
theorem k0_853 : mm_at 0 853 = some (.if_icmp .eq 545, 856, 1398, .null) := by decide +kernel
theorem k0_856 : mm_at 0 856 = some (.iconst 0, 857, 0, .int (0)) := by decide +kernel
theorem k0_857 : mm_at 0 857 = some (.ireturn, 858, 0, .null) := by decide +kernel
theorem k0_858 : mm_at 0 858 = some (.aload_n 1, 859, 1, .null) := by decide +kernel
theorem k0_859 : mm_at 0 859 = some (.aload_n 0, 860, 0, .null) := by decide +kernel
theorem k0_860 : mm_at 0 860 = some (.iload_n 3, 861, 3, .null) := by decide +kernel
theorem k0_861 : mm_at 0 861 = some (.iconst 1, 862, 0, .int (1)) := by decide +kernel
theorem k0_862 : mm_at 0 862 = some (.iadd, 863, 0, .null) := by decide +kernel
theorem k0_863 : mm_at 0 863 = some (.iaload, 864, 0, .null) := by decide +kernel
theorem k0_864 : mm_at 0 864 = some (.invokevirtual 101, 867, 42, .null) := by decide +kernel
theorem k0_867 : mm_at 0 867 = some (.aload_n 2, 868, 2, .null) := by decide +kernel
theorem k0_868 : mm_at 0 868 = some (.aload_n 0, 869, 0, .null) := by decide +kernel
theorem k0_869 : mm_at 0 869 = some (.iload_n 3, 870, 3, .null) := by decide +kernel
theorem k0_870 : mm_at 0 870 = some (.iconst 1, 871, 0, .int (1)) := by decide +kernel
theorem k0_871 : mm_at 0 871 = some (.iadd, 872, 0, .null) := by decide +kernel
theorem k0_872 : mm_at 0 872 = some (.iaload, 873, 0, .null) := by decide +kernel
theorem k0_873 : mm_at 0 873 = some (.invokevirtual 104, 876, 43, .null) := by decide +kernel
theorem k0_876 : mm_at 0 876 = some (.if_icmp .eq 522, 879, 1398, .null) := by decide +kernel
theorem k0_879 : mm_at 0 879 = some (.iconst 0, 880, 0, .int (0)) := by decide +kernel
theorem k0_880 : mm_at 0 880 = some (.ireturn, 881, 0, .null) := by decide +kernel
theorem k0_881 : mm_at 0 881 = some (.aload_n 1, 882, 1, .null) := by decide +kernel
theorem k0_882 : mm_at 0 882 = some (.aload_n 0, 883, 0, .null) := by decide +kernel
theorem k0_883 : mm_at 0 883 = some (.iload_n 3, 884, 3, .null) := by decide +kernel
theorem k0_884 : mm_at 0 884 = some (.iconst 1, 885, 0, .int (1)) := by decide +kernel
theorem k0_885 : mm_at 0 885 = some (.iadd, 886, 0, .null) := by decide +kernel
theorem k0_886 : mm_at 0 886 = some (.iaload, 887, 0, .null) := by decide +kernel
theorem k0_887 : mm_at 0 887 = some (.invokevirtual 105, 890, 44, .null) := by decide +kernel
theorem k0_890 : mm_at 0 890 = some (.aload_n 2, 891, 2, .null) := by decide +kernel
theorem k0_891 : mm_at 0 891 = some (.aload_n 0, 892, 0, .null) := by decide +kernel
theorem k0_892 : mm_at 0 892 = some (.iload_n 3, 893, 3, .null) := by decide +kernel
theorem k0_893 : mm_at 0 893 = some (.iconst 1, 894, 0, .int (1)) := by decide +kernel
theorem k0_894 : mm_at 0 894 = some (.iadd, 895, 0, .null) := by decide +kernel
theorem k0_895 : mm_at 0 895 = some (.iaload, 896, 0, .null) := by decide +kernel
theorem k0_896 : mm_at 0 896 = some (.invokevirtual 108, 899, 45, .null) := by decide +kernel
theorem k0_899 : mm_at 0 899 = some (.if_icmp .eq 499, 902, 1398, .null) := by decide +kernel
theorem k0_902 : mm_at 0 902 = some (.iconst 0, 903, 0, .int (0)) := by decide +kernel
theorem k0_903 : mm_at 0 903 = some (.ireturn, 904, 0, .null) := by decide +kernel
theorem k0_904 : mm_at 0 904 = some (.aload_n 1, 905, 1, .null) := by decide +kernel
theorem k0_905 : mm_at 0 905 = some (.aload_n 0, 906, 0, .null) := by decide +kernel
theorem k0_906 : mm_at 0 906 = some (.iload_n 3, 907, 3, .null) := by decide +kernel
theorem k0_907 : mm_at 0 907 = some (.iconst 1, 908, 0, .int (1)) := by decide +kernel
theorem k0_908 : mm_at 0 908 = some (.iadd, 909, 0, .null) := by decide +kernel
theorem k0_909 : mm_at 0 909 = some (.iaload, 910, 0, .null) := by decide +kernel
theorem k0_910 : mm_at 0 910 = some (.aload_n 0, 911, 0, .null) := by decide +kernel
theorem k0_911 : mm_at 0 911 = some (.iload_n 3, 912, 3, .null) := by decide +kernel
theorem k0_912 : mm_at 0 912 = some (.iconst 2, 913, 0, .int (2)) := by decide +kernel
theorem k0_913 : mm_at 0 913 = some (.iadd, 914, 0, .null) := by decide +kernel
theorem k0_914 : mm_at 0 914 = some (.iaload, 915, 0, .null) := by decide +kernel
theorem k0_915 : mm_at 0 915 = some (.invokevirtual 109, 918, 46, .null) := by decide +kernel
theorem k0_918 : mm_at 0 918 = some (.aload_n 2, 919, 2, .null) := by decide +kernel
theorem k0_919 : mm_at 0 919 = some (.aload_n 0, 920, 0, .null) := by decide +kernel
theorem k0_920 : mm_at 0 920 = some (.iload_n 3, 921, 3, .null) := by decide +kernel
theorem k0_921 : mm_at 0 921 = some (.iconst 1, 922, 0, .int (1)) := by decide +kernel
theorem k0_922 : mm_at 0 922 = some (.iadd, 923, 0, .null) := by decide +kernel
theorem k0_923 : mm_at 0 923 = some (.iaload, 924, 0, .null) := by decide +kernel
theorem k0_924 : mm_at 0 924 = some (.aload_n 0, 925, 0, .null) := by decide +kernel
theorem k0_925 : mm_at 0 925 = some (.iload_n 3, 926, 3, .null) := by decide +kernel
theorem k0_926 : mm_at 0 926 = some (.iconst 2, 927, 0, .int (2)) := by decide +kernel
theorem k0_927 : mm_at 0 927 = some (.iadd, 928, 0, .null) := by decide +kernel
theorem k0_928 : mm_at 0 928 = some (.iaload, 929, 0, .null) := by decide +kernel
theorem k0_929 : mm_at 0 929 = some (.invokevirtual 112, 932, 47, .null) := by decide +kernel
theorem k0_932 : mm_at 0 932 = some (.if_icmp .eq 466, 935, 1398, .null) := by decide +kernel
theorem k0_935 : mm_at 0 935 = some (.iconst 0, 936, 0, .int (0)) := by decide +kernel
theorem k0_936 : mm_at 0 936 = some (.ireturn, 937, 0, .null) := by decide +kernel
theorem k0_937 : mm_at 0 937 = some (.aload_n 1, 938, 1, .null) := by decide +kernel
theorem k0_938 : mm_at 0 938 = some (.aload_n 0, 939, 0, .null) := by decide +kernel
theorem k0_939 : mm_at 0 939 = some (.iload_n 3, 940, 3, .null) := by decide +kernel
theorem k0_940 : mm_at 0 940 = some (.iconst 1, 941, 0, .int (1)) := by decide +kernel
theorem k0_941 : mm_at 0 941 = some (.iadd, 942, 0, .null) := by decide +kernel
theorem k0_942 : mm_at 0 942 = some (.iaload, 943, 0, .null) := by decide +kernel
theorem k0_943 : mm_at 0 943 = some (.invokevirtual 113, 946, 48, .null) := by decide +kernel
theorem k0_946 : mm_at 0 946 = some (.aload_n 2, 947, 2, .null) := by decide +kernel
theorem k0_947 : mm_at 0 947 = some (.aload_n 0, 948, 0, .null) := by decide +kernel
theorem k0_948 : mm_at 0 948 = some (.iload_n 3, 949, 3, .null) := by decide +kernel
theorem k0_949 : mm_at 0 949 = some (.iconst 1, 950, 0, .int (1)) := by decide +kernel
theorem k0_950 : mm_at 0 950 = some (.iadd, 951, 0, .null) := by decide +kernel
theorem k0_951 : mm_at 0 951 = some (.iaload, 952, 0, .null) := by decide +kernel
theorem k0_952 : mm_at 0 952 = some (.invokevirtual 116, 955, 49, .null) := by decide +kernel
theorem k0_955 : mm_at 0 955 = some (.if_icmp .eq 443, 958, 1398, .null) := by decide +kernel
theorem k0_958 : mm_at 0 958 = some (.iconst 0, 959, 0, .int (0)) := by decide +kernel
theorem k0_959 : mm_at 0 959 = some (.ireturn, 960, 0, .null) := by decide +kernel
theorem k0_960 : mm_at 0 960 = some (.aload_n 1, 961, 1, .null) := by decide +kernel
theorem k0_961 : mm_at 0 961 = some (.aload_n 0, 962, 0, .null) := by decide +kernel
theorem k0_962 : mm_at 0 962 = some (.iload_n 3, 963, 3, .null) := by decide +kernel
theorem k0_963 : mm_at 0 963 = some (.iconst 1, 964, 0, .int (1)) := by decide +kernel
theorem k0_964 : mm_at 0 964 = some (.iadd, 965, 0, .null) := by decide +kernel
theorem k0_965 : mm_at 0 965 = some (.iaload, 966, 0, .null) := by decide +kernel
theorem k0_966 : mm_at 0 966 = some (.aload_n 0, 967, 0, .null) := by decide +kernel
theorem k0_967 : mm_at 0 967 = some (.iload_n 3, 968, 3, .null) := by decide +kernel
theorem k0_968 : mm_at 0 968 = some (.iconst 2, 969, 0, .int (2)) := by decide +kernel
theorem k0_969 : mm_at 0 969 = some (.iadd, 970, 0, .null) := by decide +kernel
theorem k0_970 : mm_at 0 970 = some (.iaload, 971, 0, .null) := by decide +kernel
theorem k0_971 : mm_at 0 971 = some (.invokevirtual 117, 974, 50, .null) := by decide +kernel
theorem k0_974 : mm_at 0 974 = some (.aload_n 2, 975, 2, .null) := by decide +kernel
theorem k0_975 : mm_at 0 975 = some (.aload_n 0, 976, 0, .null) := by decide +kernel
theorem k0_976 : mm_at 0 976 = some (.iload_n 3, 977, 3, .null) := by decide +kernel
theorem k0_977 : mm_at 0 977 = some (.iconst 1, 978, 0, .int (1)) := by decide +kernel
theorem k0_978 : mm_at 0 978 = some (.iadd, 979, 0, .null) := by decide +kernel
theorem k0_979 : mm_at 0 979 = some (.iaload, 980, 0, .null) := by decide +kernel
theorem k0_980 : mm_at 0 980 = some (.aload_n 0, 981, 0, .null) := by decide +kernel
theorem k0_981 : mm_at 0 981 = some (.iload_n 3, 982, 3, .null) := by decide +kernel
theorem k0_982 : mm_at 0 982 = some (.iconst 2, 983, 0, .int (2)) := by decide +kernel
theorem k0_983 : mm_at 0 983 = some (.iadd, 984, 0, .null) := by decide +kernel
theorem k0_984 : mm_at 0 984 = some (.iaload, 985, 0, .null) := by decide +kernel
theorem k0_985 : mm_at 0 985 = some (.invokevirtual 120, 988, 51, .null) := by decide +kernel
theorem k0_988 : mm_at 0 988 = some (.if_icmp .eq 410, 991, 1398, .null) := by decide +kernel
theorem k0_991 : mm_at 0 991 = some (.iconst 0, 992, 0, .int (0)) := by decide +kernel
theorem k0_992 : mm_at 0 992 = some (.ireturn, 993, 0, .null) := by decide +kernel
theorem k0_993 : mm_at 0 993 = some (.aload_n 1, 994, 1, .null) := by decide +kernel
theorem k0_994 : mm_at 0 994 = some (.invokevirtual 121, 997, 52, .null) := by decide +kernel
theorem k0_997 : mm_at 0 997 = some (.aload_n 2, 998, 2, .null) := by decide +kernel
theorem k0_998 : mm_at 0 998 = some (.invokevirtual 124, 1001, 53, .null) := by decide +kernel
theorem k0_1001 : mm_at 0 1001 = some (.if_icmp .eq 397, 1004, 1398, .null) := by decide +kernel
theorem k0_1004 : mm_at 0 1004 = some (.iconst 0, 1005, 0, .int (0)) := by decide +kernel
theorem k0_1005 : mm_at 0 1005 = some (.ireturn, 1006, 0, .null) := by decide +kernel
theorem k0_1006 : mm_at 0 1006 = some (.aload_n 1, 1007, 1, .null) := by decide +kernel
theorem k0_1007 : mm_at 0 1007 = some (.aload_n 0, 1008, 0, .null) := by decide +kernel
theorem k0_1008 : mm_at 0 1008 = some (.iload_n 3, 1009, 3, .null) := by decide +kernel
theorem k0_1009 : mm_at 0 1009 = some (.iconst 1, 1010, 0, .int (1)) := by decide +kernel
theorem k0_1010 : mm_at 0 1010 = some (.iadd, 1011, 0, .null) := by decide +kernel
theorem k0_1011 : mm_at 0 1011 = some (.iaload, 1012, 0, .null) := by decide +kernel
theorem k0_1012 : mm_at 0 1012 = some (.invokevirtual 125, 1015, 54, .null) := by decide +kernel
theorem k0_1015 : mm_at 0 1015 = some (.aload_n 2, 1016, 2, .null) := by decide +kernel
theorem k0_1016 : mm_at 0 1016 = some (.aload_n 0, 1017, 0, .null) := by decide +kernel
theorem k0_1017 : mm_at 0 1017 = some (.iload_n 3, 1018, 3, .null) := by decide +kernel
theorem k0_1018 : mm_at 0 1018 = some (.iconst 1, 1019, 0, .int (1)) := by decide +kernel
theorem k0_1019 : mm_at 0 1019 = some (.iadd, 1020, 0, .null) := by decide +kernel
theorem k0_1020 : mm_at 0 1020 = some (.iaload, 1021, 0, .null) := by decide +kernel
theorem k0_1021 : mm_at 0 1021 = some (.invokevirtual 128, 1024, 55, .null) := by decide +kernel
theorem k0_1024 : mm_at 0 1024 = some (.if_icmp .eq 374, 1027, 1398, .null) := by decide +kernel
theorem k0_1027 : mm_at 0 1027 = some (.iconst 0, 1028, 0, .int (0)) := by decide +kernel
theorem k0_1028 : mm_at 0 1028 = some (.ireturn, 1029, 0, .null) := by decide +kernel
theorem k0_1029 : mm_at 0 1029 = some (.aload_n 1, 1030, 1, .null) := by decide +kernel
theorem k0_1030 : mm_at 0 1030 = some (.aload_n 0, 1031, 0, .null) := by decide +kernel
theorem k0_1031 : mm_at 0 1031 = some (.iload_n 3, 1032, 3, .null) := by decide +kernel
theorem k0_1032 : mm_at 0 1032 = some (.iconst 1, 1033, 0, .int (1)) := by decide +kernel
theorem k0_1033 : mm_at 0 1033 = some (.iadd, 1034, 0, .null) := by decide +kernel
theorem k0_1034 : mm_at 0 1034 = some (.iaload, 1035, 0, .null) := by decide +kernel
theorem k0_1035 : mm_at 0 1035 = some (.aload_n 0, 1036, 0, .null) := by decide +kernel
theorem k0_1036 : mm_at 0 1036 = some (.iload_n 3, 1037, 3, .null) := by decide +kernel
theorem k0_1037 : mm_at 0 1037 = some (.iconst 2, 1038, 0, .int (2)) := by decide +kernel
theorem k0_1038 : mm_at 0 1038 = some (.iadd, 1039, 0, .null) := by decide +kernel
theorem k0_1039 : mm_at 0 1039 = some (.iaload, 1040, 0, .null) := by decide +kernel
theorem k0_1040 : mm_at 0 1040 = some (.aload_n 0, 1041, 0, .null) := by decide +kernel
theorem k0_1041 : mm_at 0 1041 = some (.iload_n 3, 1042, 3, .null) := by decide +kernel
theorem k0_1042 : mm_at 0 1042 = some (.iconst 3, 1043, 0, .int (3)) := by decide +kernel
theorem k0_1043 : mm_at 0 1043 = some (.iadd, 1044, 0, .null) := by decide +kernel
theorem k0_1044 : mm_at 0 1044 = some (.iaload, 1045, 0, .null) := by decide +kernel
theorem k0_1045 : mm_at 0 1045 = some (.invokevirtual 129, 1048, 56, .null) := by decide +kernel
theorem k0_1048 : mm_at 0 1048 = some (.aload_n 2, 1049, 2, .null) := by decide +kernel
theorem k0_1049 : mm_at 0 1049 = some (.aload_n 0, 1050, 0, .null) := by decide +kernel
theorem k0_1050 : mm_at 0 1050 = some (.iload_n 3, 1051, 3, .null) := by decide +kernel
theorem k0_1051 : mm_at 0 1051 = some (.iconst 1, 1052, 0, .int (1)) := by decide +kernel
theorem k0_1052 : mm_at 0 1052 = some (.iadd, 1053, 0, .null) := by decide +kernel
theorem k0_1053 : mm_at 0 1053 = some (.iaload, 1054, 0, .null) := by decide +kernel
theorem k0_1054 : mm_at 0 1054 = some (.aload_n 0, 1055, 0, .null) := by decide +kernel
theorem k0_1055 : mm_at 0 1055 = some (.iload_n 3, 1056, 3, .null) := by decide +kernel
theorem k0_1056 : mm_at 0 1056 = some (.iconst 2, 1057, 0, .int (2)) := by decide +kernel
theorem k0_1057 : mm_at 0 1057 = some (.iadd, 1058, 0, .null) := by decide +kernel
theorem k0_1058 : mm_at 0 1058 = some (.iaload, 1059, 0, .null) := by decide +kernel
theorem k0_1059 : mm_at 0 1059 = some (.aload_n 0, 1060, 0, .null) := by decide +kernel
theorem k0_1060 : mm_at 0 1060 = some (.iload_n 3, 1061, 3, .null) := by decide +kernel
theorem k0_1061 : mm_at 0 1061 = some (.iconst 3, 1062, 0, .int (3)) := by decide +kernel
theorem k0_1062 : mm_at 0 1062 = some (.iadd, 1063, 0, .null) := by decide +kernel
theorem k0_1063 : mm_at 0 1063 = some (.iaload, 1064, 0, .null) := by decide +kernel
theorem k0_1064 : mm_at 0 1064 = some (.invokevirtual 132, 1067, 57, .null) := by decide +kernel
theorem k0_1067 : mm_at 0 1067 = some (.if_icmp .eq 331, 1070, 1398, .null) := by decide +kernel
theorem k0_1070 : mm_at 0 1070 = some (.iconst 0, 1071, 0, .int (0)) := by decide +kernel
theorem k0_1071 : mm_at 0 1071 = some (.ireturn, 1072, 0, .null) := by decide +kernel
theorem k0_1072 : mm_at 0 1072 = some (.aload_n 1, 1073, 1, .null) := by decide +kernel
theorem k0_1073 : mm_at 0 1073 = some (.aload_n 0, 1074, 0, .null) := by decide +kernel
theorem k0_1074 : mm_at 0 1074 = some (.iload_n 3, 1075, 3, .null) := by decide +kernel
theorem k0_1075 : mm_at 0 1075 = some (.iconst 1, 1076, 0, .int (1)) := by decide +kernel
theorem k0_1076 : mm_at 0 1076 = some (.iadd, 1077, 0, .null) := by decide +kernel
theorem k0_1077 : mm_at 0 1077 = some (.iaload, 1078, 0, .null) := by decide +kernel
theorem k0_1078 : mm_at 0 1078 = some (.invokevirtual 133, 1081, 58, .null) := by decide +kernel
theorem k0_1081 : mm_at 0 1081 = some (.aload_n 2, 1082, 2, .null) := by decide +kernel
theorem k0_1082 : mm_at 0 1082 = some (.aload_n 0, 1083, 0, .null) := by decide +kernel
theorem k0_1083 : mm_at 0 1083 = some (.iload_n 3, 1084, 3, .null) := by decide +kernel
theorem k0_1084 : mm_at 0 1084 = some (.iconst 1, 1085, 0, .int (1)) := by decide +kernel
theorem k0_1085 : mm_at 0 1085 = some (.iadd, 1086, 0, .null) := by decide +kernel
theorem k0_1086 : mm_at 0 1086 = some (.iaload, 1087, 0, .null) := by decide +kernel
theorem k0_1087 : mm_at 0 1087 = some (.invokevirtual 136, 1090, 59, .null) := by decide +kernel
theorem k0_1090 : mm_at 0 1090 = some (.if_icmp .eq 308, 1093, 1398, .null) := by decide +kernel
theorem k0_1093 : mm_at 0 1093 = some (.iconst 0, 1094, 0, .int (0)) := by decide +kernel
theorem k0_1094 : mm_at 0 1094 = some (.ireturn, 1095, 0, .null) := by decide +kernel
theorem k0_1095 : mm_at 0 1095 = some (.aload_n 1, 1096, 1, .null) := by decide +kernel
theorem k0_1096 : mm_at 0 1096 = some (.aload_n 0, 1097, 0, .null) := by decide +kernel
theorem k0_1097 : mm_at 0 1097 = some (.iload_n 3, 1098, 3, .null) := by decide +kernel
theorem k0_1098 : mm_at 0 1098 = some (.iconst 1, 1099, 0, .int (1)) := by decide +kernel
theorem k0_1099 : mm_at 0 1099 = some (.iadd, 1100, 0, .null) := by decide +kernel
theorem k0_1100 : mm_at 0 1100 = some (.iaload, 1101, 0, .null) := by decide +kernel
theorem k0_1101 : mm_at 0 1101 = some (.aload_n 0, 1102, 0, .null) := by decide +kernel
theorem k0_1102 : mm_at 0 1102 = some (.iload_n 3, 1103, 3, .null) := by decide +kernel
theorem k0_1103 : mm_at 0 1103 = some (.iconst 2, 1104, 0, .int (2)) := by decide +kernel
theorem k0_1104 : mm_at 0 1104 = some (.iadd, 1105, 0, .null) := by decide +kernel
theorem k0_1105 : mm_at 0 1105 = some (.iaload, 1106, 0, .null) := by decide +kernel
theorem k0_1106 : mm_at 0 1106 = some (.aload_n 0, 1107, 0, .null) := by decide +kernel
theorem k0_1107 : mm_at 0 1107 = some (.iload_n 3, 1108, 3, .null) := by decide +kernel
theorem k0_1108 : mm_at 0 1108 = some (.iconst 3, 1109, 0, .int (3)) := by decide +kernel
theorem k0_1109 : mm_at 0 1109 = some (.iadd, 1110, 0, .null) := by decide +kernel
theorem k0_1110 : mm_at 0 1110 = some (.iaload, 1111, 0, .null) := by decide +kernel
theorem k0_1111 : mm_at 0 1111 = some (.invokevirtual 137, 1114, 60, .null) := by decide +kernel
theorem k0_1114 : mm_at 0 1114 = some (.aload_n 2, 1115, 2, .null) := by decide +kernel
theorem k0_1115 : mm_at 0 1115 = some (.aload_n 0, 1116, 0, .null) := by decide +kernel
theorem k0_1116 : mm_at 0 1116 = some (.iload_n 3, 1117, 3, .null) := by decide +kernel
theorem k0_1117 : mm_at 0 1117 = some (.iconst 1, 1118, 0, .int (1)) := by decide +kernel
theorem k0_1118 : mm_at 0 1118 = some (.iadd, 1119, 0, .null) := by decide +kernel
theorem k0_1119 : mm_at 0 1119 = some (.iaload, 1120, 0, .null) := by decide +kernel
theorem k0_1120 : mm_at 0 1120 = some (.aload_n 0, 1121, 0, .null) := by decide +kernel
theorem k0_1121 : mm_at 0 1121 = some (.iload_n 3, 1122, 3, .null) := by decide +kernel
theorem k0_1122 : mm_at 0 1122 = some (.iconst 2, 1123, 0, .int (2)) := by decide +kernel
theorem k0_1123 : mm_at 0 1123 = some (.iadd, 1124, 0, .null) := by decide +kernel
theorem k0_1124 : mm_at 0 1124 = some (.iaload, 1125, 0, .null) := by decide +kernel
theorem k0_1125 : mm_at 0 1125 = some (.aload_n 0, 1126, 0, .null) := by decide +kernel
theorem k0_1126 : mm_at 0 1126 = some (.iload_n 3, 1127, 3, .null) := by decide +kernel
theorem k0_1127 : mm_at 0 1127 = some (.iconst 3, 1128, 0, .int (3)) := by decide +kernel
theorem k0_1128 : mm_at 0 1128 = some (.iadd, 1129, 0, .null) := by decide +kernel
theorem k0_1129 : mm_at 0 1129 = some (.iaload, 1130, 0, .null) := by decide +kernel
theorem k0_1130 : mm_at 0 1130 = some (.invokevirtual 140, 1133, 61, .null) := by decide +kernel
theorem k0_1133 : mm_at 0 1133 = some (.if_icmp .eq 265, 1136, 1398, .null) := by decide +kernel
theorem k0_1136 : mm_at 0 1136 = some (.iconst 0, 1137, 0, .int (0)) := by decide +kernel
theorem k0_1137 : mm_at 0 1137 = some (.ireturn, 1138, 0, .null) := by decide +kernel
theorem k0_1138 : mm_at 0 1138 = some (.aload_n 1, 1139, 1, .null) := by decide +kernel
theorem k0_1139 : mm_at 0 1139 = some (.aload_n 0, 1140, 0, .null) := by decide +kernel
theorem k0_1140 : mm_at 0 1140 = some (.iload_n 3, 1141, 3, .null) := by decide +kernel
theorem k0_1141 : mm_at 0 1141 = some (.iconst 1, 1142, 0, .int (1)) := by decide +kernel
theorem k0_1142 : mm_at 0 1142 = some (.iadd, 1143, 0, .null) := by decide +kernel
theorem k0_1143 : mm_at 0 1143 = some (.iaload, 1144, 0, .null) := by decide +kernel
theorem k0_1144 : mm_at 0 1144 = some (.aload_n 0, 1145, 0, .null) := by decide +kernel
theorem k0_1145 : mm_at 0 1145 = some (.iload_n 3, 1146, 3, .null) := by decide +kernel
theorem k0_1146 : mm_at 0 1146 = some (.iconst 2, 1147, 0, .int (2)) := by decide +kernel
theorem k0_1147 : mm_at 0 1147 = some (.iadd, 1148, 0, .null) := by decide +kernel
theorem k0_1148 : mm_at 0 1148 = some (.iaload, 1149, 0, .null) := by decide +kernel
theorem k0_1149 : mm_at 0 1149 = some (.aload_n 0, 1150, 0, .null) := by decide +kernel
theorem k0_1150 : mm_at 0 1150 = some (.iload_n 3, 1151, 3, .null) := by decide +kernel
theorem k0_1151 : mm_at 0 1151 = some (.iconst 3, 1152, 0, .int (3)) := by decide +kernel
theorem k0_1152 : mm_at 0 1152 = some (.iadd, 1153, 0, .null) := by decide +kernel
theorem k0_1153 : mm_at 0 1153 = some (.iaload, 1154, 0, .null) := by decide +kernel
theorem k0_1154 : mm_at 0 1154 = some (.invokevirtual 141, 1157, 62, .null) := by decide +kernel
theorem k0_1157 : mm_at 0 1157 = some (.aload_n 2, 1158, 2, .null) := by decide +kernel
theorem k0_1158 : mm_at 0 1158 = some (.aload_n 0, 1159, 0, .null) := by decide +kernel
theorem k0_1159 : mm_at 0 1159 = some (.iload_n 3, 1160, 3, .null) := by decide +kernel
theorem k0_1160 : mm_at 0 1160 = some (.iconst 1, 1161, 0, .int (1)) := by decide +kernel
theorem k0_1161 : mm_at 0 1161 = some (.iadd, 1162, 0, .null) := by decide +kernel
theorem k0_1162 : mm_at 0 1162 = some (.iaload, 1163, 0, .null) := by decide +kernel
theorem k0_1163 : mm_at 0 1163 = some (.aload_n 0, 1164, 0, .null) := by decide +kernel
theorem k0_1164 : mm_at 0 1164 = some (.iload_n 3, 1165, 3, .null) := by decide +kernel
theorem k0_1165 : mm_at 0 1165 = some (.iconst 2, 1166, 0, .int (2)) := by decide +kernel
theorem k0_1166 : mm_at 0 1166 = some (.iadd, 1167, 0, .null) := by decide +kernel
theorem k0_1167 : mm_at 0 1167 = some (.iaload, 1168, 0, .null) := by decide +kernel
theorem k0_1168 : mm_at 0 1168 = some (.aload_n 0, 1169, 0, .null) := by decide +kernel
theorem k0_1169 : mm_at 0 1169 = some (.iload_n 3, 1170, 3, .null) := by decide +kernel
theorem k0_1170 : mm_at 0 1170 = some (.iconst 3, 1171, 0, .int (3)) := by decide +kernel
theorem k0_1171 : mm_at 0 1171 = some (.iadd, 1172, 0, .null) := by decide +kernel
theorem k0_1172 : mm_at 0 1172 = some (.iaload, 1173, 0, .null) := by decide +kernel
theorem k0_1173 : mm_at 0 1173 = some (.invokevirtual 144, 1176, 63, .null) := by decide +kernel
theorem k0_1176 : mm_at 0 1176 = some (.if_icmp .eq 222, 1179, 1398, .null) := by decide +kernel
theorem k0_1179 : mm_at 0 1179 = some (.iconst 0, 1180, 0, .int (0)) := by decide +kernel
theorem k0_1180 : mm_at 0 1180 = some (.ireturn, 1181, 0, .null) := by decide +kernel
theorem k0_1181 : mm_at 0 1181 = some (.aload_n 1, 1182, 1, .null) := by decide +kernel
theorem k0_1182 : mm_at 0 1182 = some (.aload_n 0, 1183, 0, .null) := by decide +kernel
theorem k0_1183 : mm_at 0 1183 = some (.iload_n 3, 1184, 3, .null) := by decide +kernel
theorem k0_1184 : mm_at 0 1184 = some (.iconst 1, 1185, 0, .int (1)) := by decide +kernel
theorem k0_1185 : mm_at 0 1185 = some (.iadd, 1186, 0, .null) := by decide +kernel
theorem k0_1186 : mm_at 0 1186 = some (.iaload, 1187, 0, .null) := by decide +kernel
theorem k0_1187 : mm_at 0 1187 = some (.aload_n 0, 1188, 0, .null) := by decide +kernel
theorem k0_1188 : mm_at 0 1188 = some (.iload_n 3, 1189, 3, .null) := by decide +kernel
theorem k0_1189 : mm_at 0 1189 = some (.iconst 2, 1190, 0, .int (2)) := by decide +kernel
theorem k0_1190 : mm_at 0 1190 = some (.iadd, 1191, 0, .null) := by decide +kernel
theorem k0_1191 : mm_at 0 1191 = some (.iaload, 1192, 0, .null) := by decide +kernel
theorem k0_1192 : mm_at 0 1192 = some (.aload_n 0, 1193, 0, .null) := by decide +kernel
theorem k0_1193 : mm_at 0 1193 = some (.iload_n 3, 1194, 3, .null) := by decide +kernel
theorem k0_1194 : mm_at 0 1194 = some (.iconst 3, 1195, 0, .int (3)) := by decide +kernel
theorem k0_1195 : mm_at 0 1195 = some (.iadd, 1196, 0, .null) := by decide +kernel
theorem k0_1196 : mm_at 0 1196 = some (.iaload, 1197, 0, .null) := by decide +kernel
theorem k0_1197 : mm_at 0 1197 = some (.aload_n 0, 1198, 0, .null) := by decide +kernel
theorem k0_1198 : mm_at 0 1198 = some (.iload_n 3, 1199, 3, .null) := by decide +kernel
theorem k0_1199 : mm_at 0 1199 = some (.iconst 4, 1200, 0, .int (4)) := by decide +kernel
theorem k0_1200 : mm_at 0 1200 = some (.iadd, 1201, 0, .null) := by decide +kernel
theorem k0_1201 : mm_at 0 1201 = some (.iaload, 1202, 0, .null) := by decide +kernel
theorem k0_1202 : mm_at 0 1202 = some (.aload_n 0, 1203, 0, .null) := by decide +kernel
theorem k0_1203 : mm_at 0 1203 = some (.iload_n 3, 1204, 3, .null) := by decide +kernel
theorem k0_1204 : mm_at 0 1204 = some (.iconst 5, 1205, 0, .int (5)) := by decide +kernel
theorem k0_1205 : mm_at 0 1205 = some (.iadd, 1206, 0, .null) := by decide +kernel
theorem k0_1206 : mm_at 0 1206 = some (.iaload, 1207, 0, .null) := by decide +kernel
theorem k0_1207 : mm_at 0 1207 = some (.invokevirtual 145, 1210, 64, .null) := by decide +kernel
theorem k0_1210 : mm_at 0 1210 = some (.aload_n 2, 1211, 2, .null) := by decide +kernel
theorem k0_1211 : mm_at 0 1211 = some (.aload_n 0, 1212, 0, .null) := by decide +kernel
theorem k0_1212 : mm_at 0 1212 = some (.iload_n 3, 1213, 3, .null) := by decide +kernel
theorem k0_1213 : mm_at 0 1213 = some (.iconst 1, 1214, 0, .int (1)) := by decide +kernel
theorem k0_1214 : mm_at 0 1214 = some (.iadd, 1215, 0, .null) := by decide +kernel
theorem k0_1215 : mm_at 0 1215 = some (.iaload, 1216, 0, .null) := by decide +kernel
theorem k0_1216 : mm_at 0 1216 = some (.aload_n 0, 1217, 0, .null) := by decide +kernel
theorem k0_1217 : mm_at 0 1217 = some (.iload_n 3, 1218, 3, .null) := by decide +kernel
theorem k0_1218 : mm_at 0 1218 = some (.iconst 2, 1219, 0, .int (2)) := by decide +kernel
theorem k0_1219 : mm_at 0 1219 = some (.iadd, 1220, 0, .null) := by decide +kernel
theorem k0_1220 : mm_at 0 1220 = some (.iaload, 1221, 0, .null) := by decide +kernel
theorem k0_1221 : mm_at 0 1221 = some (.aload_n 0, 1222, 0, .null) := by decide +kernel
theorem k0_1222 : mm_at 0 1222 = some (.iload_n 3, 1223, 3, .null) := by decide +kernel
theorem k0_1223 : mm_at 0 1223 = some (.iconst 3, 1224, 0, .int (3)) := by decide +kernel
theorem k0_1224 : mm_at 0 1224 = some (.iadd, 1225, 0, .null) := by decide +kernel
theorem k0_1225 : mm_at 0 1225 = some (.iaload, 1226, 0, .null) := by decide +kernel
theorem k0_1226 : mm_at 0 1226 = some (.aload_n 0, 1227, 0, .null) := by decide +kernel
theorem k0_1227 : mm_at 0 1227 = some (.iload_n 3, 1228, 3, .null) := by decide +kernel
theorem k0_1228 : mm_at 0 1228 = some (.iconst 4, 1229, 0, .int (4)) := by decide +kernel
theorem k0_1229 : mm_at 0 1229 = some (.iadd, 1230, 0, .null) := by decide +kernel
theorem k0_1230 : mm_at 0 1230 = some (.iaload, 1231, 0, .null) := by decide +kernel
theorem k0_1231 : mm_at 0 1231 = some (.aload_n 0, 1232, 0, .null) := by decide +kernel
theorem k0_1232 : mm_at 0 1232 = some (.iload_n 3, 1233, 3, .null) := by decide +kernel
theorem k0_1233 : mm_at 0 1233 = some (.iconst 5, 1234, 0, .int (5)) := by decide +kernel
theorem k0_1234 : mm_at 0 1234 = some (.iadd, 1235, 0, .null) := by decide +kernel
theorem k0_1235 : mm_at 0 1235 = some (.iaload, 1236, 0, .null) := by decide +kernel
theorem k0_1236 : mm_at 0 1236 = some (.invokevirtual 149, 1239, 65, .null) := by decide +kernel
theorem k0_1239 : mm_at 0 1239 = some (.if_icmp .eq 159, 1242, 1398, .null) := by decide +kernel
theorem k0_1242 : mm_at 0 1242 = some (.iconst 0, 1243, 0, .int (0)) := by decide +kernel
theorem k0_1243 : mm_at 0 1243 = some (.ireturn, 1244, 0, .null) := by decide +kernel
theorem k0_1244 : mm_at 0 1244 = some (.aload_n 1, 1245, 1, .null) := by decide +kernel
theorem k0_1245 : mm_at 0 1245 = some (.aload_n 0, 1246, 0, .null) := by decide +kernel
theorem k0_1246 : mm_at 0 1246 = some (.iload_n 3, 1247, 3, .null) := by decide +kernel
theorem k0_1247 : mm_at 0 1247 = some (.iconst 1, 1248, 0, .int (1)) := by decide +kernel
theorem k0_1248 : mm_at 0 1248 = some (.iadd, 1249, 0, .null) := by decide +kernel
theorem k0_1249 : mm_at 0 1249 = some (.iaload, 1250, 0, .null) := by decide +kernel
theorem k0_1250 : mm_at 0 1250 = some (.invokevirtual 150, 1253, 66, .null) := by decide +kernel
theorem k0_1253 : mm_at 0 1253 = some (.aload_n 2, 1254, 2, .null) := by decide +kernel
theorem k0_1254 : mm_at 0 1254 = some (.aload_n 0, 1255, 0, .null) := by decide +kernel
theorem k0_1255 : mm_at 0 1255 = some (.iload_n 3, 1256, 3, .null) := by decide +kernel
theorem k0_1256 : mm_at 0 1256 = some (.iconst 1, 1257, 0, .int (1)) := by decide +kernel
theorem k0_1257 : mm_at 0 1257 = some (.iadd, 1258, 0, .null) := by decide +kernel
theorem k0_1258 : mm_at 0 1258 = some (.iaload, 1259, 0, .null) := by decide +kernel
theorem k0_1259 : mm_at 0 1259 = some (.invokevirtual 153, 1262, 67, .null) := by decide +kernel
theorem k0_1262 : mm_at 0 1262 = some (.if_icmp .eq 136, 1265, 1398, .null) := by decide +kernel
theorem k0_1265 : mm_at 0 1265 = some (.iconst 0, 1266, 0, .int (0)) := by decide +kernel
theorem k0_1266 : mm_at 0 1266 = some (.ireturn, 1267, 0, .null) := by decide +kernel
theorem k0_1267 : mm_at 0 1267 = some (.aload_n 1, 1268, 1, .null) := by decide +kernel
theorem k0_1268 : mm_at 0 1268 = some (.aload_n 0, 1269, 0, .null) := by decide +kernel
theorem k0_1269 : mm_at 0 1269 = some (.iload_n 3, 1270, 3, .null) := by decide +kernel
theorem k0_1270 : mm_at 0 1270 = some (.iconst 1, 1271, 0, .int (1)) := by decide +kernel
theorem k0_1271 : mm_at 0 1271 = some (.iadd, 1272, 0, .null) := by decide +kernel
theorem k0_1272 : mm_at 0 1272 = some (.iaload, 1273, 0, .null) := by decide +kernel
theorem k0_1273 : mm_at 0 1273 = some (.invokevirtual 154, 1276, 68, .null) := by decide +kernel
theorem k0_1276 : mm_at 0 1276 = some (.aload_n 2, 1277, 2, .null) := by decide +kernel
theorem k0_1277 : mm_at 0 1277 = some (.aload_n 0, 1278, 0, .null) := by decide +kernel
theorem k0_1278 : mm_at 0 1278 = some (.iload_n 3, 1279, 3, .null) := by decide +kernel
theorem k0_1279 : mm_at 0 1279 = some (.iconst 1, 1280, 0, .int (1)) := by decide +kernel
theorem k0_1280 : mm_at 0 1280 = some (.iadd, 1281, 0, .null) := by decide +kernel
theorem k0_1281 : mm_at 0 1281 = some (.iaload, 1282, 0, .null) := by decide +kernel
theorem k0_1282 : mm_at 0 1282 = some (.invokevirtual 157, 1285, 69, .null) := by decide +kernel
theorem k0_1285 : mm_at 0 1285 = some (.if_icmp .eq 113, 1288, 1398, .null) := by decide +kernel
theorem k0_1288 : mm_at 0 1288 = some (.iconst 0, 1289, 0, .int (0)) := by decide +kernel
theorem k0_1289 : mm_at 0 1289 = some (.ireturn, 1290, 0, .null) := by decide +kernel
theorem k0_1290 : mm_at 0 1290 = some (.aload_n 1, 1291, 1, .null) := by decide +kernel
theorem k0_1291 : mm_at 0 1291 = some (.invokevirtual 158, 1294, 70, .null) := by decide +kernel
theorem k0_1294 : mm_at 0 1294 = some (.aload_n 2, 1295, 2, .null) := by decide +kernel
theorem k0_1295 : mm_at 0 1295 = some (.invokevirtual 161, 1298, 71, .null) := by decide +kernel
theorem k0_1298 : mm_at 0 1298 = some (.if_icmp .eq 100, 1301, 1398, .null) := by decide +kernel
theorem k0_1301 : mm_at 0 1301 = some (.iconst 0, 1302, 0, .int (0)) := by decide +kernel
theorem k0_1302 : mm_at 0 1302 = some (.ireturn, 1303, 0, .null) := by decide +kernel
theorem k0_1303 : mm_at 0 1303 = some (.aload_n 1, 1304, 1, .null) := by decide +kernel
theorem k0_1304 : mm_at 0 1304 = some (.invokevirtual 162, 1307, 72, .null) := by decide +kernel
theorem k0_1307 : mm_at 0 1307 = some (.aload_n 2, 1308, 2, .null) := by decide +kernel
theorem k0_1308 : mm_at 0 1308 = some (.invokevirtual 165, 1311, 73, .null) := by decide +kernel
theorem k0_1311 : mm_at 0 1311 = some (.if_icmp .eq 87, 1314, 1398, .null) := by decide +kernel
theorem k0_1314 : mm_at 0 1314 = some (.iconst 0, 1315, 0, .int (0)) := by decide +kernel
theorem k0_1315 : mm_at 0 1315 = some (.ireturn, 1316, 0, .null) := by decide +kernel
theorem k0_1316 : mm_at 0 1316 = some (.aload_n 1, 1317, 1, .null) := by decide +kernel
theorem k0_1317 : mm_at 0 1317 = some (.aload_n 0, 1318, 0, .null) := by decide +kernel
theorem k0_1318 : mm_at 0 1318 = some (.iload_n 3, 1319, 3, .null) := by decide +kernel
theorem k0_1319 : mm_at 0 1319 = some (.iconst 1, 1320, 0, .int (1)) := by decide +kernel
theorem k0_1320 : mm_at 0 1320 = some (.iadd, 1321, 0, .null) := by decide +kernel
theorem k0_1321 : mm_at 0 1321 = some (.iaload, 1322, 0, .null) := by decide +kernel
theorem k0_1322 : mm_at 0 1322 = some (.invokevirtual 166, 1325, 74, .null) := by decide +kernel
theorem k0_1325 : mm_at 0 1325 = some (.aload_n 2, 1326, 2, .null) := by decide +kernel
theorem k0_1326 : mm_at 0 1326 = some (.aload_n 0, 1327, 0, .null) := by decide +kernel
theorem k0_1327 : mm_at 0 1327 = some (.iload_n 3, 1328, 3, .null) := by decide +kernel
theorem k0_1328 : mm_at 0 1328 = some (.iconst 1, 1329, 0, .int (1)) := by decide +kernel
theorem k0_1329 : mm_at 0 1329 = some (.iadd, 1330, 0, .null) := by decide +kernel
theorem k0_1330 : mm_at 0 1330 = some (.iaload, 1331, 0, .null) := by decide +kernel
theorem k0_1331 : mm_at 0 1331 = some (.invokevirtual 169, 1334, 75, .null) := by decide +kernel
theorem k0_1334 : mm_at 0 1334 = some (.if_icmp .eq 64, 1337, 1398, .null) := by decide +kernel
theorem k0_1337 : mm_at 0 1337 = some (.iconst 0, 1338, 0, .int (0)) := by decide +kernel
theorem k0_1338 : mm_at 0 1338 = some (.ireturn, 1339, 0, .null) := by decide +kernel
theorem k0_1339 : mm_at 0 1339 = some (.aload_n 1, 1340, 1, .null) := by decide +kernel
theorem k0_1340 : mm_at 0 1340 = some (.invokevirtual 170, 1343, 76, .null) := by decide +kernel
theorem k0_1343 : mm_at 0 1343 = some (.aload_n 2, 1344, 2, .null) := by decide +kernel
theorem k0_1344 : mm_at 0 1344 = some (.invokevirtual 173, 1347, 77, .null) := by decide +kernel
theorem k0_1347 : mm_at 0 1347 = some (.if_icmp .eq 51, 1350, 1398, .null) := by decide +kernel
theorem k0_1350 : mm_at 0 1350 = some (.iconst 0, 1351, 0, .int (0)) := by decide +kernel
theorem k0_1351 : mm_at 0 1351 = some (.ireturn, 1352, 0, .null) := by decide +kernel
theorem k0_1352 : mm_at 0 1352 = some (.aload_n 1, 1353, 1, .null) := by decide +kernel
theorem k0_1353 : mm_at 0 1353 = some (.aload_n 0, 1354, 0, .null) := by decide +kernel
theorem k0_1354 : mm_at 0 1354 = some (.iload_n 3, 1355, 3, .null) := by decide +kernel
theorem k0_1355 : mm_at 0 1355 = some (.iconst 1, 1356, 0, .int (1)) := by decide +kernel
theorem k0_1356 : mm_at 0 1356 = some (.iadd, 1357, 0, .null) := by decide +kernel
theorem k0_1357 : mm_at 0 1357 = some (.iaload, 1358, 0, .null) := by decide +kernel
theorem k0_1358 : mm_at 0 1358 = some (.invokevirtual 174, 1361, 78, .null) := by decide +kernel
theorem k0_1361 : mm_at 0 1361 = some (.aload_n 2, 1362, 2, .null) := by decide +kernel
theorem k0_1362 : mm_at 0 1362 = some (.aload_n 0, 1363, 0, .null) := by decide +kernel
theorem k0_1363 : mm_at 0 1363 = some (.iload_n 3, 1364, 3, .null) := by decide +kernel
theorem k0_1364 : mm_at 0 1364 = some (.iconst 1, 1365, 0, .int (1)) := by decide +kernel
theorem k0_1365 : mm_at 0 1365 = some (.iadd, 1366, 0, .null) := by decide +kernel
theorem k0_1366 : mm_at 0 1366 = some (.iaload, 1367, 0, .null) := by decide +kernel
theorem k0_1367 : mm_at 0 1367 = some (.invokevirtual 177, 1370, 79, .null) := by decide +kernel
theorem k0_1370 : mm_at 0 1370 = some (.if_icmp .eq 28, 1373, 1398, .null) := by decide +kernel
theorem k0_1373 : mm_at 0 1373 = some (.iconst 0, 1374, 0, .int (0)) := by decide +kernel
theorem k0_1374 : mm_at 0 1374 = some (.ireturn, 1375, 0, .null) := by decide +kernel
theorem k0_1375 : mm_at 0 1375 = some (.aload_n 1, 1376, 1, .null) := by decide +kernel
theorem k0_1376 : mm_at 0 1376 = some (.aload_n 0, 1377, 0, .null) := by decide +kernel
theorem k0_1377 : mm_at 0 1377 = some (.iload_n 3, 1378, 3, .null) := by decide +kernel
theorem k0_1378 : mm_at 0 1378 = some (.iconst 1, 1379, 0, .int (1)) := by decide +kernel
theorem k0_1379 : mm_at 0 1379 = some (.iadd, 1380, 0, .null) := by decide +kernel
theorem k0_1380 : mm_at 0 1380 = some (.iaload, 1381, 0, .null) := by decide +kernel
theorem k0_1381 : mm_at 0 1381 = some (.invokevirtual 178, 1384, 80, .null) := by decide +kernel
theorem k0_1384 : mm_at 0 1384 = some (.aload_n 2, 1385, 2, .null) := by decide +kernel
theorem k0_1385 : mm_at 0 1385 = some (.aload_n 0, 1386, 0, .null) := by decide +kernel
theorem k0_1386 : mm_at 0 1386 = some (.iload_n 3, 1387, 3, .null) := by decide +kernel
theorem k0_1387 : mm_at 0 1387 = some (.iconst 1, 1388, 0, .int (1)) := by decide +kernel
theorem k0_1388 : mm_at 0 1388 = some (.iadd, 1389, 0, .null) := by decide +kernel
theorem k0_1389 : mm_at 0 1389 = some (.iaload, 1390, 0, .null) := by decide +kernel
theorem k0_1390 : mm_at 0 1390 = some (.invokevirtual 181, 1393, 81, .null) := by decide +kernel
theorem k0_1393 : mm_at 0 1393 = some (.if_icmp .eq 5, 1396, 1398, .null) := by decide +kernel
theorem k0_1396 : mm_at 0 1396 = some (.iconst 0, 1397, 0, .int (0)) := by decide +kernel
theorem k0_1397 : mm_at 0 1397 = some (.ireturn, 1398, 0, .null) := by decide +kernel
theorem k0_1398 : mm_at 0 1398 = some (.iinc 3 6, 1401, 3, .int (6)) := by decide +kernel
theorem k0_1401 : mm_at 0 1401 = some (.goto (-1383), 1404, 18, .null) := by decide +kernel
theorem k0_1404 : mm_at 0 1404 = some (.iconst 1, 1405, 0, .int (1)) := by decide +kernel
theorem k0_1405 : mm_at 0 1405 = some (.ireturn, 1406, 0, .null) := by decide +kernel
theorem k1_0 : mm_at 1 0 = some (.aload_n 0, 1, 0, .null) := by decide +kernel
theorem k1_1 : mm_at 1 1 = some (.aload_n 1, 2, 1, .null) := by decide +kernel
theorem k1_2 : mm_at 1 2 = some (.invokespecial 1, 5, 82, .null) := by decide +kernel
theorem k1_5 : mm_at 1 5 = some (.return_, 6, 0, .null) := by decide +kernel
theorem k2_0 : mm_at 2 0 = some (.aload_n 0, 1, 0, .null) := by decide +kernel
theorem k2_1 : mm_at 2 1 = some (.iload_n 1, 2, 1, .null) := by decide +kernel
theorem k2_2 : mm_at 2 2 = some (.iload_n 2, 3, 2, .null) := by decide +kernel
theorem k2_3 : mm_at 2 3 = some (.invokespecial 7, 6, 83, .null) := by decide +kernel
theorem k2_6 : mm_at 2 6 = some (.iload_n 2, 7, 2, .null) := by decide +kernel
theorem k2_7 : mm_at 2 7 = some (.iconst 3, 8, 0, .int (3)) := by decide +kernel
theorem k2_8 : mm_at 2 8 = some (.idiv, 9, 0, .null) := by decide +kernel
theorem k2_9 : mm_at 2 9 = some (.iadd, 10, 0, .null) := by decide +kernel
theorem k2_10 : mm_at 2 10 = some (.ireturn, 11, 0, .null) := by decide +kernel
theorem k3_0 : mm_at 3 0 = some (.aload_n 0, 1, 0, .null) := by decide +kernel
theorem k3_1 : mm_at 3 1 = some (.getfield 11, 4, 100, .null) := by decide +kernel
theorem k3_4 : mm_at 3 4 = some (.bipush 60, 6, 0, .int (60)) := by decide +kernel
theorem k3_6 : mm_at 3 6 = some (.invokevirtual 17, 9, 84, .null) := by decide +kernel
theorem k3_9 : mm_at 3 9 = some (.aload_n 0, 10, 0, .null) := by decide +kernel
theorem k3_10 : mm_at 3 10 = some (.iload_n 1, 11, 1, .null) := by decide +kernel
theorem k3_11 : mm_at 3 11 = some (.iload_n 2, 12, 2, .null) := by decide +kernel
theorem k3_12 : mm_at 3 12 = some (.iload_n 3, 13, 3, .null) := by decide +kernel
theorem k3_13 : mm_at 3 13 = some (.iconst 1, 14, 0, .int (1)) := by decide +kernel
theorem k3_14 : mm_at 3 14 = some (.iadd, 15, 0, .null) := by decide +kernel
theorem k3_15 : mm_at 3 15 = some (.invokespecial 23, 18, 85, .null) := by decide +kernel
theorem k3_18 : mm_at 3 18 = some (.ireturn, 19, 0, .null) := by decide +kernel
theorem k4_0 : mm_at 4 0 = some (.aload_n 0, 1, 0, .null) := by decide +kernel
theorem k4_1 : mm_at 4 1 = some (.invokespecial 3, 4, 10001, .null) := by decide +kernel
theorem k4_4 : mm_at 4 4 = some (.aload_n 0, 5, 0, .null) := by decide +kernel
theorem k4_5 : mm_at 4 5 = some (.aload_n 1, 6, 1, .null) := by decide +kernel
theorem k4_6 : mm_at 4 6 = some (.putfield 9, 9, 100, .null) := by decide +kernel
theorem k4_9 : mm_at 4 9 = some (.return_, 10, 0, .null) := by decide +kernel
theorem k5_0 : mm_at 5 0 = some (.aload_n 1, 1, 1, .null) := by decide +kernel
theorem k5_1 : mm_at 5 1 = some (.iload_n 2, 2, 2, .null) := by decide +kernel
theorem k5_2 : mm_at 5 2 = some (.iload_n 3, 3, 3, .null) := by decide +kernel
theorem k5_3 : mm_at 5 3 = some (.invokevirtual 15, 6, 86, .null) := by decide +kernel
theorem k5_6 : mm_at 5 6 = some (.ifCond .eq 7, 9, 13, .null) := by decide +kernel
theorem k5_9 : mm_at 5 9 = some (.iconst 1, 10, 0, .int (1)) := by decide +kernel
theorem k5_10 : mm_at 5 10 = some (.goto 4, 13, 14, .null) := by decide +kernel
theorem k5_13 : mm_at 5 13 = some (.iconst (-1), 14, 0, .int (-1)) := by decide +kernel
theorem k5_14 : mm_at 5 14 = some (.ireturn, 15, 0, .null) := by decide +kernel
theorem k6_0 : mm_at 6 0 = some (.iload_n 1, 1, 1, .null) := by decide +kernel
theorem k6_1 : mm_at 6 1 = some (.ireturn, 2, 0, .null) := by decide +kernel
theorem k7_0 : mm_at 7 0 = some (.aload_n 0, 1, 0, .null) := by decide +kernel
theorem k7_1 : mm_at 7 1 = some (.getfield 9, 4, 100, .null) := by decide +kernel
theorem k7_4 : mm_at 7 4 = some (.bipush 10, 6, 0, .int (10)) := by decide +kernel
theorem k7_6 : mm_at 7 6 = some (.invokevirtual 21, 9, 87, .null) := by decide +kernel
theorem k7_9 : mm_at 7 9 = some (.iload_n 3, 10, 3, .null) := by decide +kernel
theorem k7_10 : mm_at 7 10 = some (.iload_n 1, 11, 1, .null) := by decide +kernel
theorem k7_11 : mm_at 7 11 = some (.iadd, 12, 0, .null) := by decide +kernel
theorem k7_12 : mm_at 7 12 = some (.ireturn, 13, 0, .null) := by decide +kernel
theorem k8_0 : mm_at 8 0 = some (.aload_n 0, 1, 0, .null) := by decide +kernel
theorem k8_1 : mm_at 8 1 = some (.getfield 9, 4, 100, .null) := by decide +kernel
theorem k8_4 : mm_at 8 4 = some (.bipush 11, 6, 0, .int (11)) := by decide +kernel
theorem k8_6 : mm_at 8 6 = some (.invokevirtual 21, 9, 87, .null) := by decide +kernel
theorem k8_9 : mm_at 8 9 = some (.aload_n 0, 10, 0, .null) := by decide +kernel
theorem k8_10 : mm_at 8 10 = some (.iload_n 1, 11, 1, .null) := by decide +kernel
theorem k8_11 : mm_at 8 11 = some (.iload_n 2, 12, 2, .null) := by decide +kernel
theorem k8_12 : mm_at 8 12 = some (.iload_n 3, 13, 3, .null) := by decide +kernel
theorem k8_13 : mm_at 8 13 = some (.invokevirtual 27, 16, 88, .null) := by decide +kernel
theorem k8_16 : mm_at 8 16 = some (.iconst 2, 17, 0, .int (2)) := by decide +kernel
theorem k8_17 : mm_at 8 17 = some (.imul, 18, 0, .null) := by decide +kernel
theorem k8_18 : mm_at 8 18 = some (.ireturn, 19, 0, .null) := by decide +kernel
theorem k9_0 : mm_at 9 0 = some (.aload_n 0, 1, 0, .null) := by decide +kernel
theorem k9_1 : mm_at 9 1 = some (.getfield 9, 4, 100, .null) := by decide +kernel
theorem k9_4 : mm_at 9 4 = some (.bipush 12, 6, 0, .int (12)) := by decide +kernel
theorem k9_6 : mm_at 9 6 = some (.invokevirtual 21, 9, 87, .null) := by decide +kernel
theorem k9_9 : mm_at 9 9 = some (.iload_n 3, 10, 3, .null) := by decide +kernel
theorem k9_10 : mm_at 9 10 = some (.iload_n 2, 11, 2, .null) := by decide +kernel
theorem k9_11 : mm_at 9 11 = some (.isub, 12, 0, .null) := by decide +kernel
theorem k9_12 : mm_at 9 12 = some (.ireturn, 13, 0, .null) := by decide +kernel
theorem k10_0 : mm_at 10 0 = some (.aload_n 0, 1, 0, .null) := by decide +kernel
theorem k10_1 : mm_at 10 1 = some (.getfield 9, 4, 100, .null) := by decide +kernel
theorem k10_4 : mm_at 10 4 = some (.bipush 13, 6, 0, .int (13)) := by decide +kernel
theorem k10_6 : mm_at 10 6 = some (.invokevirtual 21, 9, 87, .null) := by decide +kernel
theorem k10_9 : mm_at 10 9 = some (.aload_n 0, 10, 0, .null) := by decide +kernel
theorem k10_10 : mm_at 10 10 = some (.iload_n 1, 11, 1, .null) := by decide +kernel
theorem k10_11 : mm_at 10 11 = some (.iload_n 2, 12, 2, .null) := by decide +kernel
theorem k10_12 : mm_at 10 12 = some (.iload_n 3, 13, 3, .null) := by decide +kernel
theorem k10_13 : mm_at 10 13 = some (.invokevirtual 31, 16, 89, .null) := by decide +kernel
theorem k10_16 : mm_at 10 16 = some (.aload_n 0, 17, 0, .null) := by decide +kernel
theorem k10_17 : mm_at 10 17 = some (.iload_n 1, 18, 1, .null) := by decide +kernel
theorem k10_18 : mm_at 10 18 = some (.iload_n 2, 19, 2, .null) := by decide +kernel
theorem k10_19 : mm_at 10 19 = some (.iload_n 3, 20, 3, .null) := by decide +kernel
theorem k10_20 : mm_at 10 20 = some (.invokevirtual 34, 23, 90, .null) := by decide +kernel
theorem k10_23 : mm_at 10 23 = some (.ixor, 24, 0, .null) := by decide +kernel
theorem k10_24 : mm_at 10 24 = some (.ireturn, 25, 0, .null) := by decide +kernel
theorem k11_0 : mm_at 11 0 = some (.aload_n 0, 1, 0, .null) := by decide +kernel
theorem k11_1 : mm_at 11 1 = some (.aload_n 1, 2, 1, .null) := by decide +kernel
theorem k11_2 : mm_at 11 2 = some (.invokespecial 1, 5, 91, .null) := by decide +kernel
theorem k11_5 : mm_at 11 5 = some (.return_, 6, 0, .null) := by decide +kernel
theorem k12_0 : mm_at 12 0 = some (.aload_n 0, 1, 0, .null) := by decide +kernel
theorem k12_1 : mm_at 12 1 = some (.aload_n 1, 2, 1, .null) := by decide +kernel
theorem k12_2 : mm_at 12 2 = some (.iload_n 2, 3, 2, .null) := by decide +kernel
theorem k12_3 : mm_at 12 3 = some (.iload_n 3, 4, 3, .null) := by decide +kernel
theorem k12_4 : mm_at 12 4 = some (.iload 4, 6, 4, .null) := by decide +kernel
theorem k12_6 : mm_at 12 6 = some (.invokespecial 7, 9, 92, .null) := by decide +kernel
theorem k12_9 : mm_at 12 9 = some (.ineg, 10, 0, .null) := by decide +kernel
theorem k12_10 : mm_at 12 10 = some (.ireturn, 11, 0, .null) := by decide +kernel
theorem k13_0 : mm_at 13 0 = some (.aload_n 0, 1, 0, .null) := by decide +kernel
theorem k13_1 : mm_at 13 1 = some (.iload_n 1, 2, 1, .null) := by decide +kernel
theorem k13_2 : mm_at 13 2 = some (.iload_n 2, 3, 2, .null) := by decide +kernel
theorem k13_3 : mm_at 13 3 = some (.invokespecial 11, 6, 93, .null) := by decide +kernel
theorem k13_6 : mm_at 13 6 = some (.iconst 2, 7, 0, .int (2)) := by decide +kernel
theorem k13_7 : mm_at 13 7 = some (.imul, 8, 0, .null) := by decide +kernel
theorem k13_8 : mm_at 13 8 = some (.ireturn, 9, 0, .null) := by decide +kernel
theorem k14_0 : mm_at 14 0 = some (.aload_n 0, 1, 0, .null) := by decide +kernel
theorem k14_1 : mm_at 14 1 = some (.getfield 15, 4, 100, .null) := by decide +kernel
theorem k14_4 : mm_at 14 4 = some (.bipush 70, 6, 0, .int (70)) := by decide +kernel
theorem k14_6 : mm_at 14 6 = some (.invokevirtual 21, 9, 94, .null) := by decide +kernel
theorem k14_9 : mm_at 14 9 = some (.aload_n 0, 10, 0, .null) := by decide +kernel
theorem k14_10 : mm_at 14 10 = some (.iload_n 1, 11, 1, .null) := by decide +kernel
theorem k14_11 : mm_at 14 11 = some (.iload_n 2, 12, 2, .null) := by decide +kernel
theorem k14_12 : mm_at 14 12 = some (.iload_n 3, 13, 3, .null) := by decide +kernel
theorem k14_13 : mm_at 14 13 = some (.invokespecial 27, 16, 95, .null) := by decide +kernel
theorem k14_16 : mm_at 14 16 = some (.iload_n 1, 17, 1, .null) := by decide +kernel
theorem k14_17 : mm_at 14 17 = some (.ixor, 18, 0, .null) := by decide +kernel
theorem k14_18 : mm_at 14 18 = some (.ireturn, 19, 0, .null) := by decide +kernel
theorem k15_0 : mm_at 15 0 = some (.aload_n 0, 1, 0, .null) := by decide +kernel
theorem k15_1 : mm_at 15 1 = some (.getfield 15, 4, 100, .null) := by decide +kernel
theorem k15_4 : mm_at 15 4 = some (.bipush 71, 6, 0, .int (71)) := by decide +kernel
theorem k15_6 : mm_at 15 6 = some (.invokevirtual 21, 9, 94, .null) := by decide +kernel
theorem k15_9 : mm_at 15 9 = some (.aload_n 0, 10, 0, .null) := by decide +kernel
theorem k15_10 : mm_at 15 10 = some (.iload_n 1, 11, 1, .null) := by decide +kernel
theorem k15_11 : mm_at 15 11 = some (.iload_n 2, 12, 2, .null) := by decide +kernel
theorem k15_12 : mm_at 15 12 = some (.iload_n 3, 13, 3, .null) := by decide +kernel
theorem k15_13 : mm_at 15 13 = some (.invokevirtual 31, 16, 96, .null) := by decide +kernel
theorem k15_16 : mm_at 15 16 = some (.aload_n 0, 17, 0, .null) := by decide +kernel
theorem k15_17 : mm_at 15 17 = some (.iload_n 1, 18, 1, .null) := by decide +kernel
theorem k15_18 : mm_at 15 18 = some (.iload_n 2, 19, 2, .null) := by decide +kernel
theorem k15_19 : mm_at 15 19 = some (.iload_n 3, 20, 3, .null) := by decide +kernel
theorem k15_20 : mm_at 15 20 = some (.invokespecial 34, 23, 97, .null) := by decide +kernel
theorem k15_23 : mm_at 15 23 = some (.isub, 24, 0, .null) := by decide +kernel
theorem k15_24 : mm_at 15 24 = some (.ireturn, 25, 0, .null) := by decide +kernel
theorem k16_0 : mm_at 16 0 = some (.aload_n 0, 1, 0, .null) := by decide +kernel
theorem k16_1 : mm_at 16 1 = some (.aload_n 1, 2, 1, .null) := by decide +kernel
theorem k16_2 : mm_at 16 2 = some (.invokespecial 1, 5, 98, .null) := by decide +kernel
theorem k16_5 : mm_at 16 5 = some (.return_, 6, 0, .null) := by decide +kernel
theorem k17_0 : mm_at 17 0 = some (.aload_n 1, 1, 1, .null) := by decide +kernel
theorem k17_1 : mm_at 17 1 = some (.iload_n 2, 2, 2, .null) := by decide +kernel
theorem k17_2 : mm_at 17 2 = some (.invokevirtual 7, 5, 99, .null) := by decide +kernel
theorem k17_5 : mm_at 17 5 = some (.istore 5, 7, 5, .null) := by decide +kernel
theorem k17_7 : mm_at 17 7 = some (.aload_n 0, 8, 0, .null) := by decide +kernel
theorem k17_8 : mm_at 17 8 = some (.aload_n 1, 9, 1, .null) := by decide +kernel
theorem k17_9 : mm_at 17 9 = some (.iload 4, 11, 4, .null) := by decide +kernel
theorem k17_11 : mm_at 17 11 = some (.iload 5, 13, 5, .null) := by decide +kernel
theorem k17_13 : mm_at 17 13 = some (.invokestatic 13, 16, 100, .null) := by decide +kernel
theorem k17_16 : mm_at 17 16 = some (.ifCond .eq 8, 19, 24, .null) := by decide +kernel
theorem k17_19 : mm_at 17 19 = some (.iload 5, 21, 5, .null) := by decide +kernel
theorem k17_21 : mm_at 17 21 = some (.goto 4, 24, 25, .null) := by decide +kernel
theorem k17_24 : mm_at 17 24 = some (.iload_n 2, 25, 2, .null) := by decide +kernel
theorem k17_25 : mm_at 17 25 = some (.iload_n 3, 26, 3, .null) := by decide +kernel
theorem k17_26 : mm_at 17 26 = some (.iload 4, 28, 4, .null) := by decide +kernel
theorem k17_28 : mm_at 17 28 = some (.invokespecial 19, 31, 101, .null) := by decide +kernel
theorem k17_31 : mm_at 17 31 = some (.ireturn, 32, 0, .null) := by decide +kernel
theorem k18_0 : mm_at 18 0 = some (.aload_n 0, 1, 0, .null) := by decide +kernel
theorem k18_1 : mm_at 18 1 = some (.getfield 23, 4, 100, .null) := by decide +kernel
theorem k18_4 : mm_at 18 4 = some (.bipush 30, 6, 0, .int (30)) := by decide +kernel
theorem k18_6 : mm_at 18 6 = some (.invokevirtual 29, 9, 102, .null) := by decide +kernel
theorem k18_9 : mm_at 18 9 = some (.aload_n 0, 10, 0, .null) := by decide +kernel
theorem k18_10 : mm_at 18 10 = some (.iload_n 1, 11, 1, .null) := by decide +kernel
theorem k18_11 : mm_at 18 11 = some (.iload_n 2, 12, 2, .null) := by decide +kernel
theorem k18_12 : mm_at 18 12 = some (.iload_n 3, 13, 3, .null) := by decide +kernel
theorem k18_13 : mm_at 18 13 = some (.invokespecial 35, 16, 103, .null) := by decide +kernel
theorem k18_16 : mm_at 18 16 = some (.aload_n 0, 17, 0, .null) := by decide +kernel
theorem k18_17 : mm_at 18 17 = some (.iload_n 1, 18, 1, .null) := by decide +kernel
theorem k18_18 : mm_at 18 18 = some (.iload_n 2, 19, 2, .null) := by decide +kernel
theorem k18_19 : mm_at 18 19 = some (.iconst 1, 20, 0, .int (1)) := by decide +kernel
theorem k18_20 : mm_at 18 20 = some (.invokevirtual 39, 23, 104, .null) := by decide +kernel
theorem k18_23 : mm_at 18 23 = some (.isub, 24, 0, .null) := by decide +kernel
theorem k18_24 : mm_at 18 24 = some (.ireturn, 25, 0, .null) := by decide +kernel
theorem k19_0 : mm_at 19 0 = some (.aload_n 0, 1, 0, .null) := by decide +kernel
theorem k19_1 : mm_at 19 1 = some (.invokespecial 3, 4, 10001, .null) := by decide +kernel
theorem k19_4 : mm_at 19 4 = some (.aload_n 0, 5, 0, .null) := by decide +kernel
theorem k19_5 : mm_at 19 5 = some (.bipush 6, 7, 0, .int (6)) := by decide +kernel
theorem k19_7 : mm_at 19 7 = some (.newarray .int, 9, 0, .null) := by decide +kernel
theorem k19_9 : mm_at 19 9 = some (.putfield 9, 12, 402, .null) := by decide +kernel
theorem k19_12 : mm_at 19 12 = some (.aload_n 0, 13, 0, .null) := by decide +kernel
theorem k19_13 : mm_at 19 13 = some (.bipush 6, 15, 0, .int (6)) := by decide +kernel
theorem k19_15 : mm_at 19 15 = some (.newarray .int, 17, 0, .null) := by decide +kernel
theorem k19_17 : mm_at 19 17 = some (.putfield 15, 20, 403, .null) := by decide +kernel
theorem k19_20 : mm_at 19 20 = some (.aload_n 0, 21, 0, .null) := by decide +kernel
theorem k19_21 : mm_at 19 21 = some (.bipush 6, 23, 0, .int (6)) := by decide +kernel
theorem k19_23 : mm_at 19 23 = some (.newarray .int, 25, 0, .null) := by decide +kernel
theorem k19_25 : mm_at 19 25 = some (.putfield 18, 28, 404, .null) := by decide +kernel
theorem k19_28 : mm_at 19 28 = some (.aload_n 0, 29, 0, .null) := by decide +kernel
theorem k19_29 : mm_at 19 29 = some (.bipush 6, 31, 0, .int (6)) := by decide +kernel
theorem k19_31 : mm_at 19 31 = some (.newarray .int, 33, 0, .null) := by decide +kernel
theorem k19_33 : mm_at 19 33 = some (.putfield 21, 36, 405, .null) := by decide +kernel
theorem k19_36 : mm_at 19 36 = some (.aload_n 0, 37, 0, .null) := by decide +kernel
theorem k19_37 : mm_at 19 37 = some (.bipush 6, 39, 0, .int (6)) := by decide +kernel
theorem k19_39 : mm_at 19 39 = some (.newarray .int, 41, 0, .null) := by decide +kernel
theorem k19_41 : mm_at 19 41 = some (.putfield 24, 44, 406, .null) := by decide +kernel
theorem k19_44 : mm_at 19 44 = some (.aload_n 0, 45, 0, .null) := by decide +kernel
theorem k19_45 : mm_at 19 45 = some (.bipush 6, 47, 0, .int (6)) := by decide +kernel
theorem k19_47 : mm_at 19 47 = some (.newarray .int, 49, 0, .null) := by decide +kernel
theorem k19_49 : mm_at 19 49 = some (.putfield 27, 52, 408, .null) := by decide +kernel
theorem k19_52 : mm_at 19 52 = some (.aload_n 0, 53, 0, .null) := by decide +kernel
theorem k19_53 : mm_at 19 53 = some (.bipush 6, 55, 0, .int (6)) := by decide +kernel
theorem k19_55 : mm_at 19 55 = some (.newarray .int, 57, 0, .null) := by decide +kernel
theorem k19_57 : mm_at 19 57 = some (.putfield 30, 60, 409, .null) := by decide +kernel
theorem k19_60 : mm_at 19 60 = some (.aload_n 0, 61, 0, .null) := by decide +kernel
theorem k19_61 : mm_at 19 61 = some (.bipush 6, 63, 0, .int (6)) := by decide +kernel
theorem k19_63 : mm_at 19 63 = some (.newarray .int, 65, 0, .null) := by decide +kernel
theorem k19_65 : mm_at 19 65 = some (.putfield 33, 68, 410, .null) := by decide +kernel
theorem k19_68 : mm_at 19 68 = some (.aload_n 0, 69, 0, .null) := by decide +kernel
theorem k19_69 : mm_at 19 69 = some (.new 36, 72, 9, .null) := by decide +kernel
theorem k19_72 : mm_at 19 72 = some (.dup, 73, 0, .null) := by decide +kernel
theorem k19_73 : mm_at 19 73 = some (.getstatic 38, 76, 0, .ref 1001) := by decide +kernel
theorem k19_76 : mm_at 19 76 = some (.iconst 0, 77, 0, .int (0)) := by decide +kernel
theorem k19_77 : mm_at 19 77 = some (.bipush 99, 79, 0, .int (99)) := by decide +kernel
theorem k19_79 : mm_at 19 79 = some (.invokespecial 41, 82, 105, .null) := by decide +kernel
theorem k19_82 : mm_at 19 82 = some (.putfield 44, 85, 411, .null) := by decide +kernel
theorem k19_85 : mm_at 19 85 = some (.aload_n 0, 86, 0, .null) := by decide +kernel
theorem k19_86 : mm_at 19 86 = some (.new 36, 89, 9, .null) := by decide +kernel
theorem k19_89 : mm_at 19 89 = some (.dup, 90, 0, .null) := by decide +kernel
theorem k19_90 : mm_at 19 90 = some (.getstatic 48, 93, 0, .ref 1002) := by decide +kernel
theorem k19_93 : mm_at 19 93 = some (.bipush (-99), 95, 0, .int (-99)) := by decide +kernel
theorem k19_95 : mm_at 19 95 = some (.bipush 99, 97, 0, .int (99)) := by decide +kernel
theorem k19_97 : mm_at 19 97 = some (.invokespecial 41, 100, 105, .null) := by decide +kernel
theorem k19_100 : mm_at 19 100 = some (.putfield 51, 103, 412, .null) := by decide +kernel
theorem k19_103 : mm_at 19 103 = some (.aload_n 0, 104, 0, .null) := by decide +kernel
theorem k19_104 : mm_at 19 104 = some (.new 54, 107, 7, .null) := by decide +kernel
theorem k19_107 : mm_at 19 107 = some (.dup, 108, 0, .null) := by decide +kernel
theorem k19_108 : mm_at 19 108 = some (.bipush 50, 110, 0, .int (50)) := by decide +kernel
theorem k19_110 : mm_at 19 110 = some (.bipush 32, 112, 0, .int (32)) := by decide +kernel
theorem k19_112 : mm_at 19 112 = some (.invokespecial 56, 115, 106, .null) := by decide +kernel
theorem k19_115 : mm_at 19 115 = some (.putfield 59, 118, 413, .null) := by decide +kernel
theorem k19_118 : mm_at 19 118 = some (.aload_n 0, 119, 0, .null) := by decide +kernel
theorem k19_119 : mm_at 19 119 = some (.new 54, 122, 7, .null) := by decide +kernel
theorem k19_122 : mm_at 19 122 = some (.dup, 123, 0, .null) := by decide +kernel
theorem k19_123 : mm_at 19 123 = some (.bipush 20, 125, 0, .int (20)) := by decide +kernel
theorem k19_125 : mm_at 19 125 = some (.bipush 32, 127, 0, .int (32)) := by decide +kernel
theorem k19_127 : mm_at 19 127 = some (.invokespecial 56, 130, 106, .null) := by decide +kernel
theorem k19_130 : mm_at 19 130 = some (.putfield 63, 133, 414, .null) := by decide +kernel
theorem k19_133 : mm_at 19 133 = some (.aload_n 0, 134, 0, .null) := by decide +kernel
theorem k19_134 : mm_at 19 134 = some (.iconst 1, 135, 0, .int (1)) := by decide +kernel
theorem k19_135 : mm_at 19 135 = some (.putfield 66, 138, 417, .null) := by decide +kernel
theorem k19_138 : mm_at 19 138 = some (.aload_n 0, 139, 0, .null) := by decide +kernel
theorem k19_139 : mm_at 19 139 = some (.aload_n 1, 140, 1, .null) := by decide +kernel
theorem k19_140 : mm_at 19 140 = some (.putfield 70, 143, 400, .null) := by decide +kernel
theorem k19_143 : mm_at 19 143 = some (.return_, 144, 0, .null) := by decide +kernel
theorem k20_0 : mm_at 20 0 = some (.aload_n 0, 1, 0, .null) := by decide +kernel
theorem k20_1 : mm_at 20 1 = some (.aload_n 1, 2, 1, .null) := by decide +kernel
theorem k20_2 : mm_at 20 2 = some (.getfield 74, 5, 401, .null) := by decide +kernel
theorem k20_5 : mm_at 20 5 = some (.putfield 74, 8, 401, .null) := by decide +kernel
theorem k20_8 : mm_at 20 8 = some (.aload_n 1, 9, 1, .null) := by decide +kernel
theorem k20_9 : mm_at 20 9 = some (.getfield 9, 12, 402, .null) := by decide +kernel
theorem k20_12 : mm_at 20 12 = some (.iconst 0, 13, 0, .int (0)) := by decide +kernel
theorem k20_13 : mm_at 20 13 = some (.aload_n 0, 14, 0, .null) := by decide +kernel
theorem k20_14 : mm_at 20 14 = some (.getfield 9, 17, 402, .null) := by decide +kernel
theorem k20_17 : mm_at 20 17 = some (.iconst 0, 18, 0, .int (0)) := by decide +kernel
theorem k20_18 : mm_at 20 18 = some (.bipush 6, 20, 0, .int (6)) := by decide +kernel
theorem k20_20 : mm_at 20 20 = some (.invokestatic 77, 23, 10000, .null) := by decide +kernel
theorem k20_23 : mm_at 20 23 = some (.aload_n 1, 24, 1, .null) := by decide +kernel
theorem k20_24 : mm_at 20 24 = some (.getfield 15, 27, 403, .null) := by decide +kernel
theorem k20_27 : mm_at 20 27 = some (.iconst 0, 28, 0, .int (0)) := by decide +kernel
theorem k20_28 : mm_at 20 28 = some (.aload_n 0, 29, 0, .null) := by decide +kernel
theorem k20_29 : mm_at 20 29 = some (.getfield 15, 32, 403, .null) := by decide +kernel
theorem k20_32 : mm_at 20 32 = some (.iconst 0, 33, 0, .int (0)) := by decide +kernel
theorem k20_33 : mm_at 20 33 = some (.bipush 6, 35, 0, .int (6)) := by decide +kernel
theorem k20_35 : mm_at 20 35 = some (.invokestatic 77, 38, 10000, .null) := by decide +kernel
theorem k20_38 : mm_at 20 38 = some (.aload_n 1, 39, 1, .null) := by decide +kernel
theorem k20_39 : mm_at 20 39 = some (.getfield 18, 42, 404, .null) := by decide +kernel
theorem k20_42 : mm_at 20 42 = some (.iconst 0, 43, 0, .int (0)) := by decide +kernel
theorem k20_43 : mm_at 20 43 = some (.aload_n 0, 44, 0, .null) := by decide +kernel
theorem k20_44 : mm_at 20 44 = some (.getfield 18, 47, 404, .null) := by decide +kernel
theorem k20_47 : mm_at 20 47 = some (.iconst 0, 48, 0, .int (0)) := by decide +kernel
theorem k20_48 : mm_at 20 48 = some (.bipush 6, 50, 0, .int (6)) := by decide +kernel
theorem k20_50 : mm_at 20 50 = some (.invokestatic 77, 53, 10000, .null) := by decide +kernel
theorem k20_53 : mm_at 20 53 = some (.aload_n 1, 54, 1, .null) := by decide +kernel
theorem k20_54 : mm_at 20 54 = some (.getfield 21, 57, 405, .null) := by decide +kernel
theorem k20_57 : mm_at 20 57 = some (.iconst 0, 58, 0, .int (0)) := by decide +kernel
theorem k20_58 : mm_at 20 58 = some (.aload_n 0, 59, 0, .null) := by decide +kernel
theorem k20_59 : mm_at 20 59 = some (.getfield 21, 62, 405, .null) := by decide +kernel
theorem k20_62 : mm_at 20 62 = some (.iconst 0, 63, 0, .int (0)) := by decide +kernel
theorem k20_63 : mm_at 20 63 = some (.bipush 6, 65, 0, .int (6)) := by decide +kernel
theorem k20_65 : mm_at 20 65 = some (.invokestatic 77, 68, 10000, .null) := by decide +kernel
theorem k20_68 : mm_at 20 68 = some (.aload_n 0, 69, 0, .null) := by decide +kernel
theorem k20_69 : mm_at 20 69 = some (.aload_n 1, 70, 1, .null) := by decide +kernel
theorem k20_70 : mm_at 20 70 = some (.getfield 83, 73, 407, .null) := by decide +kernel
theorem k20_73 : mm_at 20 73 = some (.putfield 83, 76, 407, .null) := by decide +kernel
theorem k20_76 : mm_at 20 76 = some (.aload_n 1, 77, 1, .null) := by decide +kernel
theorem k20_77 : mm_at 20 77 = some (.getfield 27, 80, 408, .null) := by decide +kernel
theorem k20_80 : mm_at 20 80 = some (.iconst 0, 81, 0, .int (0)) := by decide +kernel
theorem k20_81 : mm_at 20 81 = some (.aload_n 0, 82, 0, .null) := by decide +kernel
theorem k20_82 : mm_at 20 82 = some (.getfield 27, 85, 408, .null) := by decide +kernel
theorem k20_85 : mm_at 20 85 = some (.iconst 0, 86, 0, .int (0)) := by decide +kernel
theorem k20_86 : mm_at 20 86 = some (.bipush 6, 88, 0, .int (6)) := by decide +kernel
theorem k20_88 : mm_at 20 88 = some (.invokestatic 77, 91, 10000, .null) := by decide +kernel
theorem k20_91 : mm_at 20 91 = some (.aload_n 1, 92, 1, .null) := by decide +kernel
theorem k20_92 : mm_at 20 92 = some (.getfield 30, 95, 409, .null) := by decide +kernel
theorem k20_95 : mm_at 20 95 = some (.iconst 0, 96, 0, .int (0)) := by decide +kernel
theorem k20_96 : mm_at 20 96 = some (.aload_n 0, 97, 0, .null) := by decide +kernel
theorem k20_97 : mm_at 20 97 = some (.getfield 30, 100, 409, .null) := by decide +kernel
theorem k20_100 : mm_at 20 100 = some (.iconst 0, 101, 0, .int (0)) := by decide +kernel
theorem k20_101 : mm_at 20 101 = some (.bipush 6, 103, 0, .int (6)) := by decide +kernel
theorem k20_103 : mm_at 20 103 = some (.invokestatic 77, 106, 10000, .null) := by decide +kernel
theorem k20_106 : mm_at 20 106 = some (.aload_n 1, 107, 1, .null) := by decide +kernel
theorem k20_107 : mm_at 20 107 = some (.getfield 33, 110, 410, .null) := by decide +kernel
theorem k20_110 : mm_at 20 110 = some (.iconst 0, 111, 0, .int (0)) := by decide +kernel
theorem k20_111 : mm_at 20 111 = some (.aload_n 0, 112, 0, .null) := by decide +kernel
theorem k20_112 : mm_at 20 112 = some (.getfield 33, 115, 410, .null) := by decide +kernel
theorem k20_115 : mm_at 20 115 = some (.iconst 0, 116, 0, .int (0)) := by decide +kernel
theorem k20_116 : mm_at 20 116 = some (.bipush 6, 118, 0, .int (6)) := by decide +kernel
theorem k20_118 : mm_at 20 118 = some (.invokestatic 77, 121, 10000, .null) := by decide +kernel
theorem k20_121 : mm_at 20 121 = some (.aload_n 0, 122, 0, .null) := by decide +kernel
theorem k20_122 : mm_at 20 122 = some (.getfield 44, 125, 411, .null) := by decide +kernel
theorem k20_125 : mm_at 20 125 = some (.getfield 86, 128, 900, .null) := by decide +kernel
theorem k20_128 : mm_at 20 128 = some (.aload_n 1, 129, 1, .null) := by decide +kernel
theorem k20_129 : mm_at 20 129 = some (.getfield 44, 132, 411, .null) := by decide +kernel
theorem k20_132 : mm_at 20 132 = some (.getfield 86, 135, 900, .null) := by decide +kernel
theorem k20_135 : mm_at 20 135 = some (.invokevirtual 89, 138, 107, .null) := by decide +kernel
theorem k20_138 : mm_at 20 138 = some (.aload_n 0, 139, 0, .null) := by decide +kernel
theorem k20_139 : mm_at 20 139 = some (.getfield 51, 142, 412, .null) := by decide +kernel
theorem k20_142 : mm_at 20 142 = some (.getfield 86, 145, 900, .null) := by decide +kernel
theorem k20_145 : mm_at 20 145 = some (.aload_n 1, 146, 1, .null) := by decide +kernel
theorem k20_146 : mm_at 20 146 = some (.getfield 51, 149, 412, .null) := by decide +kernel
theorem k20_149 : mm_at 20 149 = some (.getfield 86, 152, 900, .null) := by decide +kernel
theorem k20_152 : mm_at 20 152 = some (.invokevirtual 89, 155, 107, .null) := by decide +kernel
theorem k20_155 : mm_at 20 155 = some (.aload_n 0, 156, 0, .null) := by decide +kernel
theorem k20_156 : mm_at 20 156 = some (.getfield 59, 159, 413, .null) := by decide +kernel
theorem k20_159 : mm_at 20 159 = some (.aload_n 1, 160, 1, .null) := by decide +kernel
theorem k20_160 : mm_at 20 160 = some (.getfield 59, 163, 413, .null) := by decide +kernel
theorem k20_163 : mm_at 20 163 = some (.invokevirtual 89, 166, 107, .null) := by decide +kernel
theorem k20_166 : mm_at 20 166 = some (.aload_n 0, 167, 0, .null) := by decide +kernel
theorem k20_167 : mm_at 20 167 = some (.getfield 63, 170, 414, .null) := by decide +kernel
theorem k20_170 : mm_at 20 170 = some (.aload_n 1, 171, 1, .null) := by decide +kernel
theorem k20_171 : mm_at 20 171 = some (.getfield 63, 174, 414, .null) := by decide +kernel
theorem k20_174 : mm_at 20 174 = some (.invokevirtual 89, 177, 107, .null) := by decide +kernel
theorem k20_177 : mm_at 20 177 = some (.aload_n 0, 178, 0, .null) := by decide +kernel
theorem k20_178 : mm_at 20 178 = some (.aload_n 1, 179, 1, .null) := by decide +kernel
theorem k20_179 : mm_at 20 179 = some (.getfield 93, 182, 415, .null) := by decide +kernel
theorem k20_182 : mm_at 20 182 = some (.putfield 93, 185, 415, .null) := by decide +kernel
theorem k20_185 : mm_at 20 185 = some (.aload_n 0, 186, 0, .null) := by decide +kernel
theorem k20_186 : mm_at 20 186 = some (.aload_n 1, 187, 1, .null) := by decide +kernel
theorem k20_187 : mm_at 20 187 = some (.getfield 96, 190, 416, .null) := by decide +kernel
theorem k20_190 : mm_at 20 190 = some (.putfield 96, 193, 416, .null) := by decide +kernel
theorem k20_193 : mm_at 20 193 = some (.aload_n 0, 194, 0, .null) := by decide +kernel
theorem k20_194 : mm_at 20 194 = some (.aload_n 1, 195, 1, .null) := by decide +kernel
theorem k20_195 : mm_at 20 195 = some (.getfield 66, 198, 417, .null) := by decide +kernel
theorem k20_198 : mm_at 20 198 = some (.putfield 66, 201, 417, .null) := by decide +kernel
theorem k20_201 : mm_at 20 201 = some (.return_, 202, 0, .null) := by decide +kernel
theorem k21_0 : mm_at 21 0 = some (.aload_n 0, 1, 0, .null) := by decide +kernel
theorem k21_1 : mm_at 21 1 = some (.getfield 74, 4, 401, .null) := by decide +kernel
theorem k21_4 : mm_at 21 4 = some (.istore_n 3, 5, 3, .null) := by decide +kernel
theorem k21_5 : mm_at 21 5 = some (.aload_n 0, 6, 0, .null) := by decide +kernel
theorem k21_6 : mm_at 21 6 = some (.getfield 9, 9, 402, .null) := by decide +kernel
theorem k21_9 : mm_at 21 9 = some (.iload_n 3, 10, 3, .null) := by decide +kernel
theorem k21_10 : mm_at 21 10 = some (.iload_n 1, 11, 1, .null) := by decide +kernel
theorem k21_11 : mm_at 21 11 = some (.bipush 10, 13, 0, .int (10)) := by decide +kernel
theorem k21_13 : mm_at 21 13 = some (.idiv, 14, 0, .null) := by decide +kernel
theorem k21_14 : mm_at 21 14 = some (.iastore, 15, 0, .null) := by decide +kernel
theorem k21_15 : mm_at 21 15 = some (.aload_n 0, 16, 0, .null) := by decide +kernel
theorem k21_16 : mm_at 21 16 = some (.getfield 15, 19, 403, .null) := by decide +kernel
theorem k21_19 : mm_at 21 19 = some (.iload_n 3, 20, 3, .null) := by decide +kernel
theorem k21_20 : mm_at 21 20 = some (.iload_n 1, 21, 1, .null) := by decide +kernel
theorem k21_21 : mm_at 21 21 = some (.bipush 10, 23, 0, .int (10)) := by decide +kernel
theorem k21_23 : mm_at 21 23 = some (.irem, 24, 0, .null) := by decide +kernel
theorem k21_24 : mm_at 21 24 = some (.iastore, 25, 0, .null) := by decide +kernel
theorem k21_25 : mm_at 21 25 = some (.aload_n 0, 26, 0, .null) := by decide +kernel
theorem k21_26 : mm_at 21 26 = some (.getfield 18, 29, 404, .null) := by decide +kernel
theorem k21_29 : mm_at 21 29 = some (.iload_n 3, 30, 3, .null) := by decide +kernel
theorem k21_30 : mm_at 21 30 = some (.iload_n 2, 31, 2, .null) := by decide +kernel
theorem k21_31 : mm_at 21 31 = some (.iastore, 32, 0, .null) := by decide +kernel
theorem k21_32 : mm_at 21 32 = some (.aload_n 0, 33, 0, .null) := by decide +kernel
theorem k21_33 : mm_at 21 33 = some (.getfield 21, 36, 405, .null) := by decide +kernel
theorem k21_36 : mm_at 21 36 = some (.iload_n 3, 37, 3, .null) := by decide +kernel
theorem k21_37 : mm_at 21 37 = some (.iconst 0, 38, 0, .int (0)) := by decide +kernel
theorem k21_38 : mm_at 21 38 = some (.iastore, 39, 0, .null) := by decide +kernel
theorem k21_39 : mm_at 21 39 = some (.aload_n 0, 40, 0, .null) := by decide +kernel
theorem k21_40 : mm_at 21 40 = some (.dup, 41, 0, .null) := by decide +kernel
theorem k21_41 : mm_at 21 41 = some (.getfield 74, 44, 401, .null) := by decide +kernel
theorem k21_44 : mm_at 21 44 = some (.iconst 1, 45, 0, .int (1)) := by decide +kernel
theorem k21_45 : mm_at 21 45 = some (.iadd, 46, 0, .null) := by decide +kernel
theorem k21_46 : mm_at 21 46 = some (.putfield 74, 49, 401, .null) := by decide +kernel
theorem k21_49 : mm_at 21 49 = some (.iload_n 3, 50, 3, .null) := by decide +kernel
theorem k21_50 : mm_at 21 50 = some (.ireturn, 51, 0, .null) := by decide +kernel
theorem k22_0 : mm_at 22 0 = some (.aload_n 0, 1, 0, .null) := by decide +kernel
theorem k22_1 : mm_at 22 1 = some (.getfield 83, 4, 407, .null) := by decide +kernel
theorem k22_4 : mm_at 22 4 = some (.istore_n 2, 5, 2, .null) := by decide +kernel
theorem k22_5 : mm_at 22 5 = some (.aload_n 0, 6, 0, .null) := by decide +kernel
theorem k22_6 : mm_at 22 6 = some (.getfield 27, 9, 408, .null) := by decide +kernel
theorem k22_9 : mm_at 22 9 = some (.iload_n 2, 10, 2, .null) := by decide +kernel
theorem k22_10 : mm_at 22 10 = some (.bipush 10, 12, 0, .int (10)) := by decide +kernel
theorem k22_12 : mm_at 22 12 = some (.iastore, 13, 0, .null) := by decide +kernel
theorem k22_13 : mm_at 22 13 = some (.aload_n 0, 14, 0, .null) := by decide +kernel
theorem k22_14 : mm_at 22 14 = some (.getfield 30, 17, 409, .null) := by decide +kernel
theorem k22_17 : mm_at 22 17 = some (.iload_n 2, 18, 2, .null) := by decide +kernel
theorem k22_18 : mm_at 22 18 = some (.iload_n 1, 19, 1, .null) := by decide +kernel
theorem k22_19 : mm_at 22 19 = some (.iastore, 20, 0, .null) := by decide +kernel
theorem k22_20 : mm_at 22 20 = some (.aload_n 0, 21, 0, .null) := by decide +kernel
theorem k22_21 : mm_at 22 21 = some (.getfield 33, 24, 410, .null) := by decide +kernel
theorem k22_24 : mm_at 22 24 = some (.iload_n 2, 25, 2, .null) := by decide +kernel
theorem k22_25 : mm_at 22 25 = some (.iconst (-1), 26, 0, .int (-1)) := by decide +kernel
theorem k22_26 : mm_at 22 26 = some (.iastore, 27, 0, .null) := by decide +kernel
theorem k22_27 : mm_at 22 27 = some (.aload_n 0, 28, 0, .null) := by decide +kernel
theorem k22_28 : mm_at 22 28 = some (.dup, 29, 0, .null) := by decide +kernel
theorem k22_29 : mm_at 22 29 = some (.getfield 83, 32, 407, .null) := by decide +kernel
theorem k22_32 : mm_at 22 32 = some (.iconst 1, 33, 0, .int (1)) := by decide +kernel
theorem k22_33 : mm_at 22 33 = some (.iadd, 34, 0, .null) := by decide +kernel
theorem k22_34 : mm_at 22 34 = some (.putfield 83, 37, 407, .null) := by decide +kernel
theorem k22_37 : mm_at 22 37 = some (.iload_n 2, 38, 2, .null) := by decide +kernel
theorem k22_38 : mm_at 22 38 = some (.ireturn, 39, 0, .null) := by decide +kernel
theorem k23_0 : mm_at 23 0 = some (.aload_n 0, 1, 0, .null) := by decide +kernel
theorem k23_1 : mm_at 23 1 = some (.getfield 70, 4, 400, .null) := by decide +kernel
theorem k23_4 : mm_at 23 4 = some (.aload_n 0, 5, 0, .null) := by decide +kernel
theorem k23_5 : mm_at 23 5 = some (.getfield 9, 8, 402, .null) := by decide +kernel
theorem k23_8 : mm_at 23 8 = some (.iload_n 1, 9, 1, .null) := by decide +kernel
theorem k23_9 : mm_at 23 9 = some (.iaload, 10, 0, .null) := by decide +kernel
theorem k23_10 : mm_at 23 10 = some (.aaload, 11, 0, .null) := by decide +kernel
theorem k23_11 : mm_at 23 11 = some (.areturn, 12, 0, .null) := by decide +kernel
theorem k24_0 : mm_at 24 0 = some (.iconst 0, 1, 0, .int (0)) := by decide +kernel
theorem k24_1 : mm_at 24 1 = some (.istore_n 2, 2, 2, .null) := by decide +kernel
theorem k24_2 : mm_at 24 2 = some (.iload_n 2, 3, 2, .null) := by decide +kernel
theorem k24_3 : mm_at 24 3 = some (.aload_n 0, 4, 0, .null) := by decide +kernel
theorem k24_4 : mm_at 24 4 = some (.getfield 83, 7, 407, .null) := by decide +kernel
theorem k24_7 : mm_at 24 7 = some (.if_icmp .ge 21, 10, 28, .null) := by decide +kernel
theorem k24_10 : mm_at 24 10 = some (.aload_n 0, 11, 0, .null) := by decide +kernel
theorem k24_11 : mm_at 24 11 = some (.getfield 33, 14, 410, .null) := by decide +kernel
theorem k24_14 : mm_at 24 14 = some (.iload_n 2, 15, 2, .null) := by decide +kernel
theorem k24_15 : mm_at 24 15 = some (.iaload, 16, 0, .null) := by decide +kernel
theorem k24_16 : mm_at 24 16 = some (.iload_n 1, 17, 1, .null) := by decide +kernel
theorem k24_17 : mm_at 24 17 = some (.if_icmp .ne 5, 20, 22, .null) := by decide +kernel
theorem k24_20 : mm_at 24 20 = some (.iload_n 2, 21, 2, .null) := by decide +kernel
theorem k24_21 : mm_at 24 21 = some (.ireturn, 22, 0, .null) := by decide +kernel
theorem k24_22 : mm_at 24 22 = some (.iinc 2 1, 25, 2, .int (1)) := by decide +kernel
theorem k24_25 : mm_at 24 25 = some (.goto (-23), 28, 2, .null) := by decide +kernel
theorem k24_28 : mm_at 24 28 = some (.iconst (-1), 29, 0, .int (-1)) := by decide +kernel
theorem k24_29 : mm_at 24 29 = some (.ireturn, 30, 0, .null) := by decide +kernel
theorem k25_0 : mm_at 25 0 = some (.iconst 0, 1, 0, .int (0)) := by decide +kernel
theorem k25_1 : mm_at 25 1 = some (.istore_n 1, 2, 1, .null) := by decide +kernel
theorem k25_2 : mm_at 25 2 = some (.iconst 0, 3, 0, .int (0)) := by decide +kernel
theorem k25_3 : mm_at 25 3 = some (.istore_n 2, 4, 2, .null) := by decide +kernel
theorem k25_4 : mm_at 25 4 = some (.iload_n 2, 5, 2, .null) := by decide +kernel
theorem k25_5 : mm_at 25 5 = some (.aload_n 0, 6, 0, .null) := by decide +kernel
theorem k25_6 : mm_at 25 6 = some (.getfield 83, 9, 407, .null) := by decide +kernel
theorem k25_9 : mm_at 25 9 = some (.if_icmp .ge 30, 12, 39, .null) := by decide +kernel
theorem k25_12 : mm_at 25 12 = some (.aload_n 0, 13, 0, .null) := by decide +kernel
theorem k25_13 : mm_at 25 13 = some (.getfield 33, 16, 410, .null) := by decide +kernel
theorem k25_16 : mm_at 25 16 = some (.iload_n 2, 17, 2, .null) := by decide +kernel
theorem k25_17 : mm_at 25 17 = some (.iaload, 18, 0, .null) := by decide +kernel
theorem k25_18 : mm_at 25 18 = some (.iconst (-1), 19, 0, .int (-1)) := by decide +kernel
theorem k25_19 : mm_at 25 19 = some (.if_icmp .eq 14, 22, 33, .null) := by decide +kernel
theorem k25_22 : mm_at 25 22 = some (.iload_n 1, 23, 1, .null) := by decide +kernel
theorem k25_23 : mm_at 25 23 = some (.iconst 1, 24, 0, .int (1)) := by decide +kernel
theorem k25_24 : mm_at 25 24 = some (.aload_n 0, 25, 0, .null) := by decide +kernel
theorem k25_25 : mm_at 25 25 = some (.getfield 33, 28, 410, .null) := by decide +kernel
theorem k25_28 : mm_at 25 28 = some (.iload_n 2, 29, 2, .null) := by decide +kernel
theorem k25_29 : mm_at 25 29 = some (.iaload, 30, 0, .null) := by decide +kernel
theorem k25_30 : mm_at 25 30 = some (.ishl, 31, 0, .null) := by decide +kernel
theorem k25_31 : mm_at 25 31 = some (.ior, 32, 0, .null) := by decide +kernel
theorem k25_32 : mm_at 25 32 = some (.istore_n 1, 33, 1, .null) := by decide +kernel
theorem k25_33 : mm_at 25 33 = some (.iinc 2 1, 36, 2, .int (1)) := by decide +kernel
theorem k25_36 : mm_at 25 36 = some (.goto (-32), 39, 4, .null) := by decide +kernel
theorem k25_39 : mm_at 25 39 = some (.iload_n 1, 40, 1, .null) := by decide +kernel
theorem k25_40 : mm_at 25 40 = some (.ireturn, 41, 0, .null) := by decide +kernel
theorem k26_0 : mm_at 26 0 = some (.iload_n 1, 1, 1, .null) := by decide +kernel
theorem k26_1 : mm_at 26 1 = some (.iconst 1, 2, 0, .int (1)) := by decide +kernel
theorem k26_2 : mm_at 26 2 = some (.iadd, 3, 0, .null) := by decide +kernel
theorem k26_3 : mm_at 26 3 = some (.aload_n 0, 4, 0, .null) := by decide +kernel
theorem k26_4 : mm_at 26 4 = some (.getfield 74, 7, 401, .null) := by decide +kernel
theorem k26_7 : mm_at 26 7 = some (.if_icmp .ge 9, 10, 16, .null) := by decide +kernel
theorem k26_10 : mm_at 26 10 = some (.iload_n 1, 11, 1, .null) := by decide +kernel
theorem k26_11 : mm_at 26 11 = some (.iconst 1, 12, 0, .int (1)) := by decide +kernel
theorem k26_12 : mm_at 26 12 = some (.iadd, 13, 0, .null) := by decide +kernel
theorem k26_13 : mm_at 26 13 = some (.goto 4, 16, 17, .null) := by decide +kernel
theorem k26_16 : mm_at 26 16 = some (.iconst 0, 17, 0, .int (0)) := by decide +kernel
theorem k26_17 : mm_at 26 17 = some (.ireturn, 18, 0, .null) := by decide +kernel
theorem k27_0 : mm_at 27 0 = some (.aload_n 0, 1, 0, .null) := by decide +kernel
theorem k27_1 : mm_at 27 1 = some (.getfield 18, 4, 404, .null) := by decide +kernel
theorem k27_4 : mm_at 27 4 = some (.iload_n 1, 5, 1, .null) := by decide +kernel
theorem k27_5 : mm_at 27 5 = some (.iaload, 6, 0, .null) := by decide +kernel
theorem k27_6 : mm_at 27 6 = some (.aload_n 0, 7, 0, .null) := by decide +kernel
theorem k27_7 : mm_at 27 7 = some (.getfield 21, 10, 405, .null) := by decide +kernel
theorem k27_10 : mm_at 27 10 = some (.iload_n 1, 11, 1, .null) := by decide +kernel
theorem k27_11 : mm_at 27 11 = some (.iaload, 12, 0, .null) := by decide +kernel
theorem k27_12 : mm_at 27 12 = some (.ixor, 13, 0, .null) := by decide +kernel
theorem k27_13 : mm_at 27 13 = some (.iload_n 2, 14, 2, .null) := by decide +kernel
theorem k27_14 : mm_at 27 14 = some (.invokestatic 99, 17, 108, .null) := by decide +kernel
theorem k27_17 : mm_at 27 17 = some (.ireturn, 18, 0, .null) := by decide +kernel
theorem k28_0 : mm_at 28 0 = some (.aload_n 0, 1, 0, .null) := by decide +kernel
theorem k28_1 : mm_at 28 1 = some (.getfield 44, 4, 411, .null) := by decide +kernel
theorem k28_4 : mm_at 28 4 = some (.aload_n 0, 5, 0, .null) := by decide +kernel
theorem k28_5 : mm_at 28 5 = some (.getfield 18, 8, 404, .null) := by decide +kernel
theorem k28_8 : mm_at 28 8 = some (.iload_n 1, 9, 1, .null) := by decide +kernel
theorem k28_9 : mm_at 28 9 = some (.iaload, 10, 0, .null) := by decide +kernel
theorem k28_10 : mm_at 28 10 = some (.invokestatic 103, 13, 109, .null) := by decide +kernel
theorem k28_13 : mm_at 28 13 = some (.aload_n 0, 14, 0, .null) := by decide +kernel
theorem k28_14 : mm_at 28 14 = some (.getfield 21, 17, 405, .null) := by decide +kernel
theorem k28_17 : mm_at 28 17 = some (.iload_n 1, 18, 1, .null) := by decide +kernel
theorem k28_18 : mm_at 28 18 = some (.iaload, 19, 0, .null) := by decide +kernel
theorem k28_19 : mm_at 28 19 = some (.invokestatic 103, 22, 109, .null) := by decide +kernel
theorem k28_22 : mm_at 28 22 = some (.aload_n 0, 23, 0, .null) := by decide +kernel
theorem k28_23 : mm_at 28 23 = some (.getfield 96, 26, 416, .null) := by decide +kernel
theorem k28_26 : mm_at 28 26 = some (.invokevirtual 109, 29, 110, .null) := by decide +kernel
theorem k28_29 : mm_at 28 29 = some (.istore_n 2, 30, 2, .null) := by decide +kernel
theorem k28_30 : mm_at 28 30 = some (.aload_n 0, 31, 0, .null) := by decide +kernel
theorem k28_31 : mm_at 28 31 = some (.iload_n 1, 32, 1, .null) := by decide +kernel
theorem k28_32 : mm_at 28 32 = some (.invokevirtual 113, 35, 111, .null) := by decide +kernel
theorem k28_35 : mm_at 28 35 = some (.iload_n 2, 36, 2, .null) := by decide +kernel
theorem k28_36 : mm_at 28 36 = some (.aload_n 0, 37, 0, .null) := by decide +kernel
theorem k28_37 : mm_at 28 37 = some (.getfield 15, 40, 403, .null) := by decide +kernel
theorem k28_40 : mm_at 28 40 = some (.iload_n 1, 41, 1, .null) := by decide +kernel
theorem k28_41 : mm_at 28 41 = some (.iaload, 42, 0, .null) := by decide +kernel
theorem k28_42 : mm_at 28 42 = some (.invokevirtual 117, 45, 112, .null) := by decide +kernel
theorem k28_45 : mm_at 28 45 = some (.ireturn, 46, 0, .null) := by decide +kernel
theorem k29_0 : mm_at 29 0 = some (.iconst 0, 1, 0, .int (0)) := by decide +kernel
theorem k29_1 : mm_at 29 1 = some (.istore_n 1, 2, 1, .null) := by decide +kernel
theorem k29_2 : mm_at 29 2 = some (.iload_n 1, 3, 1, .null) := by decide +kernel
theorem k29_3 : mm_at 29 3 = some (.aload_n 0, 4, 0, .null) := by decide +kernel
theorem k29_4 : mm_at 29 4 = some (.getfield 74, 7, 401, .null) := by decide +kernel
theorem k29_7 : mm_at 29 7 = some (.if_icmp .ge 20, 10, 27, .null) := by decide +kernel
theorem k29_10 : mm_at 29 10 = some (.aload_n 0, 11, 0, .null) := by decide +kernel
theorem k29_11 : mm_at 29 11 = some (.getfield 24, 14, 406, .null) := by decide +kernel
theorem k29_14 : mm_at 29 14 = some (.iload_n 1, 15, 1, .null) := by decide +kernel
theorem k29_15 : mm_at 29 15 = some (.aload_n 0, 16, 0, .null) := by decide +kernel
theorem k29_16 : mm_at 29 16 = some (.iload_n 1, 17, 1, .null) := by decide +kernel
theorem k29_17 : mm_at 29 17 = some (.invokevirtual 123, 20, 113, .null) := by decide +kernel
theorem k29_20 : mm_at 29 20 = some (.iastore, 21, 0, .null) := by decide +kernel
theorem k29_21 : mm_at 29 21 = some (.iinc 1 1, 24, 1, .int (1)) := by decide +kernel
theorem k29_24 : mm_at 29 24 = some (.goto (-22), 27, 2, .null) := by decide +kernel
theorem k29_27 : mm_at 29 27 = some (.return_, 28, 0, .null) := by decide +kernel
theorem k30_0 : mm_at 30 0 = some (.iconst 0, 1, 0, .int (0)) := by decide +kernel
theorem k30_1 : mm_at 30 1 = some (.istore_n 2, 2, 2, .null) := by decide +kernel
theorem k30_2 : mm_at 30 2 = some (.iconst 0, 3, 0, .int (0)) := by decide +kernel
theorem k30_3 : mm_at 30 3 = some (.istore_n 3, 4, 3, .null) := by decide +kernel
theorem k30_4 : mm_at 30 4 = some (.iload_n 3, 5, 3, .null) := by decide +kernel
theorem k30_5 : mm_at 30 5 = some (.aload_n 0, 6, 0, .null) := by decide +kernel
theorem k30_6 : mm_at 30 6 = some (.getfield 74, 9, 401, .null) := by decide +kernel
theorem k30_9 : mm_at 30 9 = some (.if_icmp .ge 26, 12, 35, .null) := by decide +kernel
theorem k30_12 : mm_at 30 12 = some (.iload_n 1, 13, 1, .null) := by decide +kernel
theorem k30_13 : mm_at 30 13 = some (.iload_n 3, 14, 3, .null) := by decide +kernel
theorem k30_14 : mm_at 30 14 = some (.invokestatic 99, 17, 108, .null) := by decide +kernel
theorem k30_17 : mm_at 30 17 = some (.ifCond .eq 12, 20, 29, .null) := by decide +kernel
theorem k30_20 : mm_at 30 20 = some (.iload_n 2, 21, 2, .null) := by decide +kernel
theorem k30_21 : mm_at 30 21 = some (.aload_n 0, 22, 0, .null) := by decide +kernel
theorem k30_22 : mm_at 30 22 = some (.getfield 24, 25, 406, .null) := by decide +kernel
theorem k30_25 : mm_at 30 25 = some (.iload_n 3, 26, 3, .null) := by decide +kernel
theorem k30_26 : mm_at 30 26 = some (.iaload, 27, 0, .null) := by decide +kernel
theorem k30_27 : mm_at 30 27 = some (.iadd, 28, 0, .null) := by decide +kernel
theorem k30_28 : mm_at 30 28 = some (.istore_n 2, 29, 2, .null) := by decide +kernel
theorem k30_29 : mm_at 30 29 = some (.iinc 3 1, 32, 3, .int (1)) := by decide +kernel
theorem k30_32 : mm_at 30 32 = some (.goto (-28), 35, 4, .null) := by decide +kernel
theorem k30_35 : mm_at 30 35 = some (.iload_n 2, 36, 2, .null) := by decide +kernel
theorem k30_36 : mm_at 30 36 = some (.ireturn, 37, 0, .null) := by decide +kernel
theorem k31_0 : mm_at 31 0 = some (.iload_n 3, 1, 3, .null) := by decide +kernel
theorem k31_1 : mm_at 31 1 = some (.iload_n 1, 2, 1, .null) := by decide +kernel
theorem k31_2 : mm_at 31 2 = some (.invokestatic 99, 5, 108, .null) := by decide +kernel
theorem k31_5 : mm_at 31 5 = some (.ifCond .eq 18, 8, 23, .null) := by decide +kernel
theorem k31_8 : mm_at 31 8 = some (.aload_n 0, 9, 0, .null) := by decide +kernel
theorem k31_9 : mm_at 31 9 = some (.iload_n 1, 10, 1, .null) := by decide +kernel
theorem k31_10 : mm_at 31 10 = some (.invokevirtual 113, 13, 111, .null) := by decide +kernel
theorem k31_13 : mm_at 31 13 = some (.aload_n 0, 14, 0, .null) := by decide +kernel
theorem k31_14 : mm_at 31 14 = some (.iload_n 1, 15, 1, .null) := by decide +kernel
theorem k31_15 : mm_at 31 15 = some (.iload_n 2, 16, 2, .null) := by decide +kernel
theorem k31_16 : mm_at 31 16 = some (.iload_n 3, 17, 3, .null) := by decide +kernel
theorem k31_17 : mm_at 31 17 = some (.invokevirtual 126, 20, 114, .null) := by decide +kernel
theorem k31_20 : mm_at 31 20 = some (.goto 4, 23, 24, .null) := by decide +kernel
theorem k31_23 : mm_at 31 23 = some (.iconst 0, 24, 0, .int (0)) := by decide +kernel
theorem k31_24 : mm_at 31 24 = some (.ireturn, 25, 0, .null) := by decide +kernel
theorem k32_0 : mm_at 32 0 = some (.aload_n 0, 1, 0, .null) := by decide +kernel
theorem k32_1 : mm_at 32 1 = some (.invokevirtual 130, 4, 115, .null) := by decide +kernel
theorem k32_4 : mm_at 32 4 = some (.istore_n 3, 5, 3, .null) := by decide +kernel
theorem k32_5 : mm_at 32 5 = some (.iconst 0, 6, 0, .int (0)) := by decide +kernel
theorem k32_6 : mm_at 32 6 = some (.istore 4, 8, 4, .null) := by decide +kernel
theorem k32_8 : mm_at 32 8 = some (.iconst 0, 9, 0, .int (0)) := by decide +kernel
theorem k32_9 : mm_at 32 9 = some (.istore 5, 11, 5, .null) := by decide +kernel
theorem k32_11 : mm_at 32 11 = some (.iload 5, 13, 5, .null) := by decide +kernel
theorem k32_13 : mm_at 32 13 = some (.aload_n 0, 14, 0, .null) := by decide +kernel
theorem k32_14 : mm_at 32 14 = some (.getfield 74, 17, 401, .null) := by decide +kernel
theorem k32_17 : mm_at 32 17 = some (.if_icmp .ge 33, 20, 50, .null) := by decide +kernel
theorem k32_20 : mm_at 32 20 = some (.aload_n 0, 21, 0, .null) := by decide +kernel
theorem k32_21 : mm_at 32 21 = some (.iload 5, 23, 5, .null) := by decide +kernel
theorem k32_23 : mm_at 32 23 = some (.iload_n 2, 24, 2, .null) := by decide +kernel
theorem k32_24 : mm_at 32 24 = some (.iload_n 3, 25, 3, .null) := by decide +kernel
theorem k32_25 : mm_at 32 25 = some (.invokevirtual 134, 28, 116, .null) := by decide +kernel
theorem k32_28 : mm_at 32 28 = some (.iload_n 1, 29, 1, .null) := by decide +kernel
theorem k32_29 : mm_at 32 29 = some (.if_icmp .ne 15, 32, 44, .null) := by decide +kernel
theorem k32_32 : mm_at 32 32 = some (.iload 4, 34, 4, .null) := by decide +kernel
theorem k32_34 : mm_at 32 34 = some (.aload_n 0, 35, 0, .null) := by decide +kernel
theorem k32_35 : mm_at 32 35 = some (.getfield 24, 38, 406, .null) := by decide +kernel
theorem k32_38 : mm_at 32 38 = some (.iload 5, 40, 5, .null) := by decide +kernel
theorem k32_40 : mm_at 32 40 = some (.iaload, 41, 0, .null) := by decide +kernel
theorem k32_41 : mm_at 32 41 = some (.iadd, 42, 0, .null) := by decide +kernel
theorem k32_42 : mm_at 32 42 = some (.istore 4, 44, 4, .null) := by decide +kernel
theorem k32_44 : mm_at 32 44 = some (.iinc 5 1, 47, 5, .int (1)) := by decide +kernel
theorem k32_47 : mm_at 32 47 = some (.goto (-36), 50, 11, .null) := by decide +kernel
theorem k32_50 : mm_at 32 50 = some (.iload 4, 52, 4, .null) := by decide +kernel
theorem k32_52 : mm_at 32 52 = some (.ireturn, 53, 0, .null) := by decide +kernel
theorem k33_0 : mm_at 33 0 = some (.iconst 0, 1, 0, .int (0)) := by decide +kernel
theorem k33_1 : mm_at 33 1 = some (.istore_n 3, 2, 3, .null) := by decide +kernel
theorem k33_2 : mm_at 33 2 = some (.iconst 0, 3, 0, .int (0)) := by decide +kernel
theorem k33_3 : mm_at 33 3 = some (.istore 4, 5, 4, .null) := by decide +kernel
theorem k33_5 : mm_at 33 5 = some (.iload 4, 7, 4, .null) := by decide +kernel
theorem k33_7 : mm_at 33 7 = some (.aload_n 0, 8, 0, .null) := by decide +kernel
theorem k33_8 : mm_at 33 8 = some (.getfield 74, 11, 401, .null) := by decide +kernel
theorem k33_11 : mm_at 33 11 = some (.if_icmp .ge 43, 14, 54, .null) := by decide +kernel
theorem k33_14 : mm_at 33 14 = some (.iload_n 2, 15, 2, .null) := by decide +kernel
theorem k33_15 : mm_at 33 15 = some (.iload 4, 17, 4, .null) := by decide +kernel
theorem k33_17 : mm_at 33 17 = some (.invokestatic 99, 20, 108, .null) := by decide +kernel
theorem k33_20 : mm_at 33 20 = some (.ifCond .eq 28, 23, 48, .null) := by decide +kernel
theorem k33_23 : mm_at 33 23 = some (.iload_n 3, 24, 3, .null) := by decide +kernel
theorem k33_24 : mm_at 33 24 = some (.aload_n 0, 25, 0, .null) := by decide +kernel
theorem k33_25 : mm_at 33 25 = some (.iload 4, 27, 4, .null) := by decide +kernel
theorem k33_27 : mm_at 33 27 = some (.invokevirtual 113, 30, 111, .null) := by decide +kernel
theorem k33_30 : mm_at 33 30 = some (.aload_n 0, 31, 0, .null) := by decide +kernel
theorem k33_31 : mm_at 33 31 = some (.iload 4, 33, 4, .null) := by decide +kernel
theorem k33_33 : mm_at 33 33 = some (.iload_n 1, 34, 1, .null) := by decide +kernel
theorem k33_34 : mm_at 33 34 = some (.iload_n 2, 35, 2, .null) := by decide +kernel
theorem k33_35 : mm_at 33 35 = some (.invokevirtual 126, 38, 114, .null) := by decide +kernel
theorem k33_38 : mm_at 33 38 = some (.aload_n 0, 39, 0, .null) := by decide +kernel
theorem k33_39 : mm_at 33 39 = some (.getfield 24, 42, 406, .null) := by decide +kernel
theorem k33_42 : mm_at 33 42 = some (.iload 4, 44, 4, .null) := by decide +kernel
theorem k33_44 : mm_at 33 44 = some (.iaload, 45, 0, .null) := by decide +kernel
theorem k33_45 : mm_at 33 45 = some (.imul, 46, 0, .null) := by decide +kernel
theorem k33_46 : mm_at 33 46 = some (.iadd, 47, 0, .null) := by decide +kernel
theorem k33_47 : mm_at 33 47 = some (.istore_n 3, 48, 3, .null) := by decide +kernel
theorem k33_48 : mm_at 33 48 = some (.iinc 4 1, 51, 4, .int (1)) := by decide +kernel
theorem k33_51 : mm_at 33 51 = some (.goto (-46), 54, 5, .null) := by decide +kernel
theorem k33_54 : mm_at 33 54 = some (.iload_n 3, 55, 3, .null) := by decide +kernel
theorem k33_55 : mm_at 33 55 = some (.ireturn, 56, 0, .null) := by decide +kernel
theorem k34_0 : mm_at 34 0 = some (.iconst 0, 1, 0, .int (0)) := by decide +kernel
theorem k34_1 : mm_at 34 1 = some (.istore_n 1, 2, 1, .null) := by decide +kernel
theorem k34_2 : mm_at 34 2 = some (.iconst 0, 3, 0, .int (0)) := by decide +kernel
theorem k34_3 : mm_at 34 3 = some (.istore_n 2, 4, 2, .null) := by decide +kernel
theorem k34_4 : mm_at 34 4 = some (.iconst 0, 5, 0, .int (0)) := by decide +kernel
theorem k34_5 : mm_at 34 5 = some (.istore_n 3, 6, 3, .null) := by decide +kernel
theorem k34_6 : mm_at 34 6 = some (.iload_n 3, 7, 3, .null) := by decide +kernel
theorem k34_7 : mm_at 34 7 = some (.aload_n 0, 8, 0, .null) := by decide +kernel
theorem k34_8 : mm_at 34 8 = some (.getfield 83, 11, 407, .null) := by decide +kernel
theorem k34_11 : mm_at 34 11 = some (.if_icmp .ge 54, 14, 65, .null) := by decide +kernel
theorem k34_14 : mm_at 34 14 = some (.aload_n 0, 15, 0, .null) := by decide +kernel
theorem k34_15 : mm_at 34 15 = some (.iload_n 1, 16, 1, .null) := by decide +kernel
theorem k34_16 : mm_at 34 16 = some (.invokevirtual 137, 19, 117, .null) := by decide +kernel
theorem k34_19 : mm_at 34 19 = some (.istore 4, 21, 4, .null) := by decide +kernel
theorem k34_21 : mm_at 34 21 = some (.iload_n 1, 22, 1, .null) := by decide +kernel
theorem k34_22 : mm_at 34 22 = some (.iconst 1, 23, 0, .int (1)) := by decide +kernel
theorem k34_23 : mm_at 34 23 = some (.iload 4, 25, 4, .null) := by decide +kernel
theorem k34_25 : mm_at 34 25 = some (.ishl, 26, 0, .null) := by decide +kernel
theorem k34_26 : mm_at 34 26 = some (.ior, 27, 0, .null) := by decide +kernel
theorem k34_27 : mm_at 34 27 = some (.istore_n 1, 28, 1, .null) := by decide +kernel
theorem k34_28 : mm_at 34 28 = some (.aload_n 0, 29, 0, .null) := by decide +kernel
theorem k34_29 : mm_at 34 29 = some (.iload 4, 31, 4, .null) := by decide +kernel
theorem k34_31 : mm_at 34 31 = some (.iload_n 2, 32, 2, .null) := by decide +kernel
theorem k34_32 : mm_at 34 32 = some (.invokevirtual 140, 35, 118, .null) := by decide +kernel
theorem k34_35 : mm_at 34 35 = some (.istore 5, 37, 5, .null) := by decide +kernel
theorem k34_37 : mm_at 34 37 = some (.aload_n 0, 38, 0, .null) := by decide +kernel
theorem k34_38 : mm_at 34 38 = some (.getfield 33, 41, 410, .null) := by decide +kernel
theorem k34_41 : mm_at 34 41 = some (.iload 4, 43, 4, .null) := by decide +kernel
theorem k34_43 : mm_at 34 43 = some (.iload 5, 45, 5, .null) := by decide +kernel
theorem k34_45 : mm_at 34 45 = some (.iastore, 46, 0, .null) := by decide +kernel
theorem k34_46 : mm_at 34 46 = some (.iload 5, 48, 5, .null) := by decide +kernel
theorem k34_48 : mm_at 34 48 = some (.iconst (-1), 49, 0, .int (-1)) := by decide +kernel
theorem k34_49 : mm_at 34 49 = some (.if_icmp .eq 10, 52, 59, .null) := by decide +kernel
theorem k34_52 : mm_at 34 52 = some (.iload_n 2, 53, 2, .null) := by decide +kernel
theorem k34_53 : mm_at 34 53 = some (.iconst 1, 54, 0, .int (1)) := by decide +kernel
theorem k34_54 : mm_at 34 54 = some (.iload 5, 56, 5, .null) := by decide +kernel
theorem k34_56 : mm_at 34 56 = some (.ishl, 57, 0, .null) := by decide +kernel
theorem k34_57 : mm_at 34 57 = some (.ior, 58, 0, .null) := by decide +kernel
theorem k34_58 : mm_at 34 58 = some (.istore_n 2, 59, 2, .null) := by decide +kernel
theorem k34_59 : mm_at 34 59 = some (.iinc 3 1, 62, 3, .int (1)) := by decide +kernel
theorem k34_62 : mm_at 34 62 = some (.goto (-56), 65, 6, .null) := by decide +kernel
theorem k34_65 : mm_at 34 65 = some (.return_, 66, 0, .null) := by decide +kernel
theorem k35_0 : mm_at 35 0 = some (.iconst 0, 1, 0, .int (0)) := by decide +kernel
theorem k35_1 : mm_at 35 1 = some (.istore_n 2, 2, 2, .null) := by decide +kernel
theorem k35_2 : mm_at 35 2 = some (.iconst (-1), 3, 0, .int (-1)) := by decide +kernel
theorem k35_3 : mm_at 35 3 = some (.istore_n 3, 4, 3, .null) := by decide +kernel
theorem k35_4 : mm_at 35 4 = some (.iconst 0, 5, 0, .int (0)) := by decide +kernel
theorem k35_5 : mm_at 35 5 = some (.istore 4, 7, 4, .null) := by decide +kernel
theorem k35_7 : mm_at 35 7 = some (.iload 4, 9, 4, .null) := by decide +kernel
theorem k35_9 : mm_at 35 9 = some (.aload_n 0, 10, 0, .null) := by decide +kernel
theorem k35_10 : mm_at 35 10 = some (.getfield 83, 13, 407, .null) := by decide +kernel
theorem k35_13 : mm_at 35 13 = some (.if_icmp .ge 40, 16, 53, .null) := by decide +kernel
theorem k35_16 : mm_at 35 16 = some (.iload_n 1, 17, 1, .null) := by decide +kernel
theorem k35_17 : mm_at 35 17 = some (.iload 4, 19, 4, .null) := by decide +kernel
theorem k35_19 : mm_at 35 19 = some (.invokestatic 99, 22, 108, .null) := by decide +kernel
theorem k35_22 : mm_at 35 22 = some (.ifCond .ne 25, 25, 47, .null) := by decide +kernel
theorem k35_25 : mm_at 35 25 = some (.aload_n 0, 26, 0, .null) := by decide +kernel
theorem k35_26 : mm_at 35 26 = some (.getfield 27, 29, 408, .null) := by decide +kernel
theorem k35_29 : mm_at 35 29 = some (.iload 4, 31, 4, .null) := by decide +kernel
theorem k35_31 : mm_at 35 31 = some (.iaload, 32, 0, .null) := by decide +kernel
theorem k35_32 : mm_at 35 32 = some (.iload_n 3, 33, 3, .null) := by decide +kernel
theorem k35_33 : mm_at 35 33 = some (.if_icmp .le 14, 36, 47, .null) := by decide +kernel
theorem k35_36 : mm_at 35 36 = some (.iload 4, 38, 4, .null) := by decide +kernel
theorem k35_38 : mm_at 35 38 = some (.istore_n 2, 39, 2, .null) := by decide +kernel
theorem k35_39 : mm_at 35 39 = some (.aload_n 0, 40, 0, .null) := by decide +kernel
theorem k35_40 : mm_at 35 40 = some (.getfield 27, 43, 408, .null) := by decide +kernel
theorem k35_43 : mm_at 35 43 = some (.iload 4, 45, 4, .null) := by decide +kernel
theorem k35_45 : mm_at 35 45 = some (.iaload, 46, 0, .null) := by decide +kernel
theorem k35_46 : mm_at 35 46 = some (.istore_n 3, 47, 3, .null) := by decide +kernel
theorem k35_47 : mm_at 35 47 = some (.iinc 4 1, 50, 4, .int (1)) := by decide +kernel
theorem k35_50 : mm_at 35 50 = some (.goto (-43), 53, 7, .null) := by decide +kernel
theorem k35_53 : mm_at 35 53 = some (.iload_n 2, 54, 2, .null) := by decide +kernel
theorem k35_54 : mm_at 35 54 = some (.ireturn, 55, 0, .null) := by decide +kernel
theorem k36_0 : mm_at 36 0 = some (.iconst (-1), 1, 0, .int (-1)) := by decide +kernel
theorem k36_1 : mm_at 36 1 = some (.istore_n 3, 2, 3, .null) := by decide +kernel
theorem k36_2 : mm_at 36 2 = some (.iconst 0, 3, 0, .int (0)) := by decide +kernel
theorem k36_3 : mm_at 36 3 = some (.istore 4, 5, 4, .null) := by decide +kernel
theorem k36_5 : mm_at 36 5 = some (.iconst 0, 6, 0, .int (0)) := by decide +kernel
theorem k36_6 : mm_at 36 6 = some (.istore 5, 8, 5, .null) := by decide +kernel
theorem k36_8 : mm_at 36 8 = some (.iload 5, 10, 5, .null) := by decide +kernel
theorem k36_10 : mm_at 36 10 = some (.aload_n 0, 11, 0, .null) := by decide +kernel
theorem k36_11 : mm_at 36 11 = some (.getfield 74, 14, 401, .null) := by decide +kernel
theorem k36_14 : mm_at 36 14 = some (.if_icmp .ge 78, 17, 92, .null) := by decide +kernel
theorem k36_17 : mm_at 36 17 = some (.iload_n 2, 18, 2, .null) := by decide +kernel
theorem k36_18 : mm_at 36 18 = some (.iload 5, 20, 5, .null) := by decide +kernel
theorem k36_20 : mm_at 36 20 = some (.invokestatic 99, 23, 108, .null) := by decide +kernel
theorem k36_23 : mm_at 36 23 = some (.ifCond .ne 63, 26, 86, .null) := by decide +kernel
theorem k36_26 : mm_at 36 26 = some (.aload_n 0, 27, 0, .null) := by decide +kernel
theorem k36_27 : mm_at 36 27 = some (.iload 5, 29, 5, .null) := by decide +kernel
theorem k36_29 : mm_at 36 29 = some (.aload_n 0, 30, 0, .null) := by decide +kernel
theorem k36_30 : mm_at 36 30 = some (.getfield 30, 33, 409, .null) := by decide +kernel
theorem k36_33 : mm_at 36 33 = some (.iload_n 1, 34, 1, .null) := by decide +kernel
theorem k36_34 : mm_at 36 34 = some (.iaload, 35, 0, .null) := by decide +kernel
theorem k36_35 : mm_at 36 35 = some (.invokevirtual 143, 38, 119, .null) := by decide +kernel
theorem k36_38 : mm_at 36 38 = some (.ifCond .eq 7, 41, 45, .null) := by decide +kernel
theorem k36_41 : mm_at 36 41 = some (.iconst 1, 42, 0, .int (1)) := by decide +kernel
theorem k36_42 : mm_at 36 42 = some (.goto 4, 45, 46, .null) := by decide +kernel
theorem k36_45 : mm_at 36 45 = some (.iconst 0, 46, 0, .int (0)) := by decide +kernel
theorem k36_46 : mm_at 36 46 = some (.istore 6, 48, 6, .null) := by decide +kernel
theorem k36_48 : mm_at 36 48 = some (.aload_n 0, 49, 0, .null) := by decide +kernel
theorem k36_49 : mm_at 36 49 = some (.getfield 51, 52, 412, .null) := by decide +kernel
theorem k36_52 : mm_at 36 52 = some (.iload 6, 54, 6, .null) := by decide +kernel
theorem k36_54 : mm_at 36 54 = some (.iload 5, 56, 5, .null) := by decide +kernel
theorem k36_56 : mm_at 36 56 = some (.aload_n 0, 57, 0, .null) := by decide +kernel
theorem k36_57 : mm_at 36 57 = some (.getfield 27, 60, 408, .null) := by decide +kernel
theorem k36_60 : mm_at 36 60 = some (.iload_n 1, 61, 1, .null) := by decide +kernel
theorem k36_61 : mm_at 36 61 = some (.iaload, 62, 0, .null) := by decide +kernel
theorem k36_62 : mm_at 36 62 = some (.invokevirtual 109, 65, 110, .null) := by decide +kernel
theorem k36_65 : mm_at 36 65 = some (.istore 7, 67, 7, .null) := by decide +kernel
theorem k36_67 : mm_at 36 67 = some (.iload_n 3, 68, 3, .null) := by decide +kernel
theorem k36_68 : mm_at 36 68 = some (.iconst (-1), 69, 0, .int (-1)) := by decide +kernel
theorem k36_69 : mm_at 36 69 = some (.if_icmp .eq 10, 72, 79, .null) := by decide +kernel
theorem k36_72 : mm_at 36 72 = some (.iload 7, 74, 7, .null) := by decide +kernel
theorem k36_74 : mm_at 36 74 = some (.iload 4, 76, 4, .null) := by decide +kernel
theorem k36_76 : mm_at 36 76 = some (.if_icmp .le 10, 79, 86, .null) := by decide +kernel
theorem k36_79 : mm_at 36 79 = some (.iload 5, 81, 5, .null) := by decide +kernel
theorem k36_81 : mm_at 36 81 = some (.istore_n 3, 82, 3, .null) := by decide +kernel
theorem k36_82 : mm_at 36 82 = some (.iload 7, 84, 7, .null) := by decide +kernel
theorem k36_84 : mm_at 36 84 = some (.istore 4, 86, 4, .null) := by decide +kernel
theorem k36_86 : mm_at 36 86 = some (.iinc 5 1, 89, 5, .int (1)) := by decide +kernel
theorem k36_89 : mm_at 36 89 = some (.goto (-81), 92, 8, .null) := by decide +kernel
theorem k36_92 : mm_at 36 92 = some (.iload_n 3, 93, 3, .null) := by decide +kernel
theorem k36_93 : mm_at 36 93 = some (.ireturn, 94, 0, .null) := by decide +kernel
theorem k37_0 : mm_at 37 0 = some (.aload_n 0, 1, 0, .null) := by decide +kernel
theorem k37_1 : mm_at 37 1 = some (.invokevirtual 146, 4, 120, .null) := by decide +kernel
theorem k37_4 : mm_at 37 4 = some (.aload_n 0, 5, 0, .null) := by decide +kernel
theorem k37_5 : mm_at 37 5 = some (.invokevirtual 149, 8, 121, .null) := by decide +kernel
theorem k37_8 : mm_at 37 8 = some (.aload_n 0, 9, 0, .null) := by decide +kernel
theorem k37_9 : mm_at 37 9 = some (.invokevirtual 130, 12, 115, .null) := by decide +kernel
theorem k37_12 : mm_at 37 12 = some (.istore_n 1, 13, 1, .null) := by decide +kernel
theorem k37_13 : mm_at 37 13 = some (.aload_n 0, 14, 0, .null) := by decide +kernel
theorem k37_14 : mm_at 37 14 = some (.iconst 0, 15, 0, .int (0)) := by decide +kernel
theorem k37_15 : mm_at 37 15 = some (.putfield 93, 18, 415, .null) := by decide +kernel
theorem k37_18 : mm_at 37 18 = some (.iconst 0, 19, 0, .int (0)) := by decide +kernel
theorem k37_19 : mm_at 37 19 = some (.istore_n 2, 20, 2, .null) := by decide +kernel
theorem k37_20 : mm_at 37 20 = some (.iload_n 2, 21, 2, .null) := by decide +kernel
theorem k37_21 : mm_at 37 21 = some (.bipush 8, 23, 0, .int (8)) := by decide +kernel
theorem k37_23 : mm_at 37 23 = some (.if_icmp .ge 30, 26, 53, .null) := by decide +kernel
theorem k37_26 : mm_at 37 26 = some (.aload_n 0, 27, 0, .null) := by decide +kernel
theorem k37_27 : mm_at 37 27 = some (.iload_n 2, 28, 2, .null) := by decide +kernel
theorem k37_28 : mm_at 37 28 = some (.iload_n 1, 29, 1, .null) := by decide +kernel
theorem k37_29 : mm_at 37 29 = some (.invokevirtual 152, 32, 122, .null) := by decide +kernel
theorem k37_32 : mm_at 37 32 = some (.ifCond .le 15, 35, 47, .null) := by decide +kernel
theorem k37_35 : mm_at 37 35 = some (.aload_n 0, 36, 0, .null) := by decide +kernel
theorem k37_36 : mm_at 37 36 = some (.dup, 37, 0, .null) := by decide +kernel
theorem k37_37 : mm_at 37 37 = some (.getfield 93, 40, 415, .null) := by decide +kernel
theorem k37_40 : mm_at 37 40 = some (.iconst 1, 41, 0, .int (1)) := by decide +kernel
theorem k37_41 : mm_at 37 41 = some (.iload_n 2, 42, 2, .null) := by decide +kernel
theorem k37_42 : mm_at 37 42 = some (.ishl, 43, 0, .null) := by decide +kernel
theorem k37_43 : mm_at 37 43 = some (.ior, 44, 0, .null) := by decide +kernel
theorem k37_44 : mm_at 37 44 = some (.putfield 93, 47, 415, .null) := by decide +kernel
theorem k37_47 : mm_at 37 47 = some (.iinc 2 1, 50, 2, .int (1)) := by decide +kernel
theorem k37_50 : mm_at 37 50 = some (.goto (-30), 53, 20, .null) := by decide +kernel
theorem k37_53 : mm_at 37 53 = some (.iconst 0, 54, 0, .int (0)) := by decide +kernel
theorem k37_54 : mm_at 37 54 = some (.istore_n 2, 55, 2, .null) := by decide +kernel
theorem k37_55 : mm_at 37 55 = some (.iload_n 2, 56, 2, .null) := by decide +kernel
theorem k37_56 : mm_at 37 56 = some (.aload_n 0, 57, 0, .null) := by decide +kernel
theorem k37_57 : mm_at 37 57 = some (.getfield 74, 60, 401, .null) := by decide +kernel
theorem k37_60 : mm_at 37 60 = some (.if_icmp .ge 34, 63, 94, .null) := by decide +kernel
theorem k37_63 : mm_at 37 63 = some (.iload_n 1, 64, 1, .null) := by decide +kernel
theorem k37_64 : mm_at 37 64 = some (.iload_n 2, 65, 2, .null) := by decide +kernel
theorem k37_65 : mm_at 37 65 = some (.invokestatic 99, 68, 108, .null) := by decide +kernel
theorem k37_68 : mm_at 37 68 = some (.ifCond .eq 20, 71, 88, .null) := by decide +kernel
theorem k37_71 : mm_at 37 71 = some (.aload_n 0, 72, 0, .null) := by decide +kernel
theorem k37_72 : mm_at 37 72 = some (.getfield 21, 75, 405, .null) := by decide +kernel
theorem k37_75 : mm_at 37 75 = some (.iload_n 2, 76, 2, .null) := by decide +kernel
theorem k37_76 : mm_at 37 76 = some (.dup2, 77, 0, .null) := by decide +kernel
theorem k37_77 : mm_at 37 77 = some (.iaload, 78, 0, .null) := by decide +kernel
theorem k37_78 : mm_at 37 78 = some (.aload_n 0, 79, 0, .null) := by decide +kernel
theorem k37_79 : mm_at 37 79 = some (.getfield 21, 82, 405, .null) := by decide +kernel
theorem k37_82 : mm_at 37 82 = some (.iload_n 2, 83, 2, .null) := by decide +kernel
theorem k37_83 : mm_at 37 83 = some (.iaload, 84, 0, .null) := by decide +kernel
theorem k37_84 : mm_at 37 84 = some (.iconst 1, 85, 0, .int (1)) := by decide +kernel
theorem k37_85 : mm_at 37 85 = some (.isub, 86, 0, .null) := by decide +kernel
theorem k37_86 : mm_at 37 86 = some (.iand, 87, 0, .null) := by decide +kernel
theorem k37_87 : mm_at 37 87 = some (.iastore, 88, 0, .null) := by decide +kernel
theorem k37_88 : mm_at 37 88 = some (.iinc 2 1, 91, 2, .int (1)) := by decide +kernel
theorem k37_91 : mm_at 37 91 = some (.goto (-36), 94, 55, .null) := by decide +kernel
theorem k37_94 : mm_at 37 94 = some (.aload_n 0, 95, 0, .null) := by decide +kernel
theorem k37_95 : mm_at 37 95 = some (.dup, 96, 0, .null) := by decide +kernel
theorem k37_96 : mm_at 37 96 = some (.getfield 96, 99, 416, .null) := by decide +kernel
theorem k37_99 : mm_at 37 99 = some (.iconst 1, 100, 0, .int (1)) := by decide +kernel
theorem k37_100 : mm_at 37 100 = some (.iadd, 101, 0, .null) := by decide +kernel
theorem k37_101 : mm_at 37 101 = some (.putfield 96, 104, 416, .null) := by decide +kernel
theorem k37_104 : mm_at 37 104 = some (.return_, 105, 0, .null) := by decide +kernel
theorem k38_0 : mm_at 38 0 = some (.aload_n 0, 1, 0, .null) := by decide +kernel
theorem k38_1 : mm_at 38 1 = some (.getfield 83, 4, 407, .null) := by decide +kernel
theorem k38_4 : mm_at 38 4 = some (.ifCond .le 26, 7, 30, .null) := by decide +kernel
theorem k38_7 : mm_at 38 7 = some (.aload_n 0, 8, 0, .null) := by decide +kernel
theorem k38_8 : mm_at 38 8 = some (.invokevirtual 155, 11, 123, .null) := by decide +kernel
theorem k38_11 : mm_at 38 11 = some (.aload_n 0, 12, 0, .null) := by decide +kernel
theorem k38_12 : mm_at 38 12 = some (.getfield 83, 15, 407, .null) := by decide +kernel
theorem k38_15 : mm_at 38 15 = some (.irem, 16, 0, .null) := by decide +kernel
theorem k38_16 : mm_at 38 16 = some (.istore_n 1, 17, 1, .null) := by decide +kernel
theorem k38_17 : mm_at 38 17 = some (.aload_n 0, 18, 0, .null) := by decide +kernel
theorem k38_18 : mm_at 38 18 = some (.getfield 27, 21, 408, .null) := by decide +kernel
theorem k38_21 : mm_at 38 21 = some (.iload_n 1, 22, 1, .null) := by decide +kernel
theorem k38_22 : mm_at 38 22 = some (.aload_n 0, 23, 0, .null) := by decide +kernel
theorem k38_23 : mm_at 38 23 = some (.invokevirtual 155, 26, 123, .null) := by decide +kernel
theorem k38_26 : mm_at 38 26 = some (.bipush 100, 28, 0, .int (100)) := by decide +kernel
theorem k38_28 : mm_at 38 28 = some (.irem, 29, 0, .null) := by decide +kernel
theorem k38_29 : mm_at 38 29 = some (.iastore, 30, 0, .null) := by decide +kernel
theorem k38_30 : mm_at 38 30 = some (.return_, 31, 0, .null) := by decide +kernel
theorem k39_0 : mm_at 39 0 = some (.aload_n 0, 1, 0, .null) := by decide +kernel
theorem k39_1 : mm_at 39 1 = some (.aload_n 0, 2, 0, .null) := by decide +kernel
theorem k39_2 : mm_at 39 2 = some (.getfield 66, 5, 417, .null) := by decide +kernel
theorem k39_5 : mm_at 39 5 = some (.ldc 158, 7, 0, .int (1103515245)) := by decide +kernel
theorem k39_7 : mm_at 39 7 = some (.imul, 8, 0, .null) := by decide +kernel
theorem k39_8 : mm_at 39 8 = some (.sipush 12345, 11, 0, .int (12345)) := by decide +kernel
theorem k39_11 : mm_at 39 11 = some (.iadd, 12, 0, .null) := by decide +kernel
theorem k39_12 : mm_at 39 12 = some (.putfield 66, 15, 417, .null) := by decide +kernel
theorem k39_15 : mm_at 39 15 = some (.aload_n 0, 16, 0, .null) := by decide +kernel
theorem k39_16 : mm_at 39 16 = some (.getfield 66, 19, 417, .null) := by decide +kernel
theorem k39_19 : mm_at 39 19 = some (.bipush 8, 21, 0, .int (8)) := by decide +kernel
theorem k39_21 : mm_at 39 21 = some (.iushr, 22, 0, .null) := by decide +kernel
theorem k39_22 : mm_at 39 22 = some (.ireturn, 23, 0, .null) := by decide +kernel
theorem k40_0 : mm_at 40 0 = some (.aload_n 0, 1, 0, .null) := by decide +kernel
theorem k40_1 : mm_at 40 1 = some (.invokespecial 3, 4, 10001, .null) := by decide +kernel
theorem k40_4 : mm_at 40 4 = some (.aload_n 0, 5, 0, .null) := by decide +kernel
theorem k40_5 : mm_at 40 5 = some (.new 9, 8, 7, .null) := by decide +kernel
theorem k40_8 : mm_at 40 8 = some (.dup, 9, 0, .null) := by decide +kernel
theorem k40_9 : mm_at 40 9 = some (.bipush 50, 11, 0, .int (50)) := by decide +kernel
theorem k40_11 : mm_at 40 11 = some (.bipush 32, 13, 0, .int (32)) := by decide +kernel
theorem k40_13 : mm_at 40 13 = some (.invokespecial 11, 16, 124, .null) := by decide +kernel
theorem k40_16 : mm_at 40 16 = some (.putfield 14, 19, 500, .null) := by decide +kernel
theorem k40_19 : mm_at 40 19 = some (.aload_n 0, 20, 0, .null) := by decide +kernel
theorem k40_20 : mm_at 40 20 = some (.new 9, 23, 7, .null) := by decide +kernel
theorem k40_23 : mm_at 40 23 = some (.dup, 24, 0, .null) := by decide +kernel
theorem k40_24 : mm_at 40 24 = some (.bipush 50, 26, 0, .int (50)) := by decide +kernel
theorem k40_26 : mm_at 40 26 = some (.bipush 32, 28, 0, .int (32)) := by decide +kernel
theorem k40_28 : mm_at 40 28 = some (.invokespecial 11, 31, 124, .null) := by decide +kernel
theorem k40_31 : mm_at 40 31 = some (.putfield 20, 34, 501, .null) := by decide +kernel
theorem k40_34 : mm_at 40 34 = some (.aload_n 0, 35, 0, .null) := by decide +kernel
theorem k40_35 : mm_at 40 35 = some (.ldc 23, 37, 0, .ref 1010) := by decide +kernel
theorem k40_37 : mm_at 40 37 = some (.putfield 25, 40, 502, .null) := by decide +kernel
theorem k40_40 : mm_at 40 40 = some (.return_, 41, 0, .null) := by decide +kernel
theorem k41_0 : mm_at 41 0 = some (.aload_n 0, 1, 0, .null) := by decide +kernel
theorem k41_1 : mm_at 41 1 = some (.getfield 20, 4, 501, .null) := by decide +kernel
theorem k41_4 : mm_at 41 4 = some (.aload_n 1, 5, 1, .null) := by decide +kernel
theorem k41_5 : mm_at 41 5 = some (.invokevirtual 29, 8, 125, .null) := by decide +kernel
theorem k41_8 : mm_at 41 8 = some (.aload_n 0, 9, 0, .null) := by decide +kernel
theorem k41_9 : mm_at 41 9 = some (.getfield 14, 12, 500, .null) := by decide +kernel
theorem k41_12 : mm_at 41 12 = some (.invokevirtual 33, 15, 126, .null) := by decide +kernel
theorem k41_15 : mm_at 41 15 = some (.aload_n 0, 16, 0, .null) := by decide +kernel
theorem k41_16 : mm_at 41 16 = some (.aload_n 2, 17, 2, .null) := by decide +kernel
theorem k41_17 : mm_at 41 17 = some (.putfield 25, 20, 502, .null) := by decide +kernel
theorem k41_20 : mm_at 41 20 = some (.aload_n 0, 21, 0, .null) := by decide +kernel
theorem k41_21 : mm_at 41 21 = some (.iconst 0, 22, 0, .int (0)) := by decide +kernel
theorem k41_22 : mm_at 41 22 = some (.putfield 36, 25, 503, .null) := by decide +kernel
theorem k41_25 : mm_at 41 25 = some (.aload_n 0, 26, 0, .null) := by decide +kernel
theorem k41_26 : mm_at 41 26 = some (.iconst (-1), 27, 0, .int (-1)) := by decide +kernel
theorem k41_27 : mm_at 41 27 = some (.putfield 40, 30, 504, .null) := by decide +kernel
theorem k41_30 : mm_at 41 30 = some (.aload_n 0, 31, 0, .null) := by decide +kernel
theorem k41_31 : mm_at 41 31 = some (.iconst 0, 32, 0, .int (0)) := by decide +kernel
theorem k41_32 : mm_at 41 32 = some (.iconst 0, 33, 0, .int (0)) := by decide +kernel
theorem k41_33 : mm_at 41 33 = some (.invokevirtual 43, 36, 127, .null) := by decide +kernel
theorem k41_36 : mm_at 41 36 = some (.aload_n 0, 37, 0, .null) := by decide +kernel
theorem k41_37 : mm_at 41 37 = some (.getfield 40, 40, 504, .null) := by decide +kernel
theorem k41_40 : mm_at 41 40 = some (.iconst (-1), 41, 0, .int (-1)) := by decide +kernel
theorem k41_41 : mm_at 41 41 = some (.if_icmp .ne 25, 44, 66, .null) := by decide +kernel
theorem k41_44 : mm_at 41 44 = some (.aload_n 0, 45, 0, .null) := by decide +kernel
theorem k41_45 : mm_at 41 45 = some (.getfield 36, 48, 503, .null) := by decide +kernel
theorem k41_48 : mm_at 41 48 = some (.aload_n 0, 49, 0, .null) := by decide +kernel
theorem k41_49 : mm_at 41 49 = some (.getfield 20, 52, 501, .null) := by decide +kernel
theorem k41_52 : mm_at 41 52 = some (.getfield 46, 55, 702, .null) := by decide +kernel
theorem k41_55 : mm_at 41 55 = some (.if_icmp .ge 11, 58, 66, .null) := by decide +kernel
theorem k41_58 : mm_at 41 58 = some (.aload_n 0, 59, 0, .null) := by decide +kernel
theorem k41_59 : mm_at 41 59 = some (.aload_n 0, 60, 0, .null) := by decide +kernel
theorem k41_60 : mm_at 41 60 = some (.getfield 36, 63, 503, .null) := by decide +kernel
theorem k41_63 : mm_at 41 63 = some (.putfield 40, 66, 504, .null) := by decide +kernel
theorem k41_66 : mm_at 41 66 = some (.aload_n 0, 67, 0, .null) := by decide +kernel
theorem k41_67 : mm_at 41 67 = some (.getfield 40, 70, 504, .null) := by decide +kernel
theorem k41_70 : mm_at 41 70 = some (.ireturn, 71, 0, .null) := by decide +kernel
theorem k42_0 : mm_at 42 0 = some (.aload_n 0, 1, 0, .null) := by decide +kernel
theorem k42_1 : mm_at 42 1 = some (.getfield 20, 4, 501, .null) := by decide +kernel
theorem k42_4 : mm_at 42 4 = some (.aload_n 0, 5, 0, .null) := by decide +kernel
theorem k42_5 : mm_at 42 5 = some (.getfield 36, 8, 503, .null) := by decide +kernel
theorem k42_8 : mm_at 42 8 = some (.invokevirtual 49, 11, 128, .null) := by decide +kernel
theorem k42_11 : mm_at 42 11 = some (.ifCond .eq 17, 14, 28, .null) := by decide +kernel
theorem k42_14 : mm_at 42 14 = some (.aload_n 0, 15, 0, .null) := by decide +kernel
theorem k42_15 : mm_at 42 15 = some (.getfield 20, 18, 501, .null) := by decide +kernel
theorem k42_18 : mm_at 42 18 = some (.aload_n 0, 19, 0, .null) := by decide +kernel
theorem k42_19 : mm_at 42 19 = some (.getfield 36, 22, 503, .null) := by decide +kernel
theorem k42_22 : mm_at 42 22 = some (.invokevirtual 53, 25, 129, .null) := by decide +kernel
theorem k42_25 : mm_at 42 25 = some (.goto 4, 28, 29, .null) := by decide +kernel
theorem k42_28 : mm_at 42 28 = some (.iconst (-1), 29, 0, .int (-1)) := by decide +kernel
theorem k42_29 : mm_at 42 29 = some (.ireturn, 30, 0, .null) := by decide +kernel
theorem k43_0 : mm_at 43 0 = some (.iload_n 1, 1, 1, .null) := by decide +kernel
theorem k43_1 : mm_at 43 1 = some (.iconst 5, 2, 0, .int (5)) := by decide +kernel
theorem k43_2 : mm_at 43 2 = some (.if_icmp .lt 9, 5, 11, .null) := by decide +kernel
theorem k43_5 : mm_at 43 5 = some (.aload_n 0, 6, 0, .null) := by decide +kernel
theorem k43_6 : mm_at 43 6 = some (.iload_n 2, 7, 2, .null) := by decide +kernel
theorem k43_7 : mm_at 43 7 = some (.invokevirtual 57, 10, 130, .null) := by decide +kernel
theorem k43_10 : mm_at 43 10 = some (.return_, 11, 0, .null) := by decide +kernel
theorem k43_11 : mm_at 43 11 = some (.aload_n 0, 12, 0, .null) := by decide +kernel
theorem k43_12 : mm_at 43 12 = some (.iload_n 1, 13, 1, .null) := by decide +kernel
theorem k43_13 : mm_at 43 13 = some (.iconst 1, 14, 0, .int (1)) := by decide +kernel
theorem k43_14 : mm_at 43 14 = some (.iadd, 15, 0, .null) := by decide +kernel
theorem k43_15 : mm_at 43 15 = some (.iload_n 2, 16, 2, .null) := by decide +kernel
theorem k43_16 : mm_at 43 16 = some (.invokevirtual 43, 19, 127, .null) := by decide +kernel
theorem k43_19 : mm_at 43 19 = some (.iload_n 1, 20, 1, .null) := by decide +kernel
theorem k43_20 : mm_at 43 20 = some (.iconst 2, 21, 0, .int (2)) := by decide +kernel
theorem k43_21 : mm_at 43 21 = some (.if_icmp .ne 7, 24, 28, .null) := by decide +kernel
theorem k43_24 : mm_at 43 24 = some (.iconst 1, 25, 0, .int (1)) := by decide +kernel
theorem k43_25 : mm_at 43 25 = some (.goto 5, 28, 30, .null) := by decide +kernel
theorem k43_28 : mm_at 43 28 = some (.bipush 50, 30, 0, .int (50)) := by decide +kernel
theorem k43_30 : mm_at 43 30 = some (.istore_n 3, 31, 3, .null) := by decide +kernel
theorem k43_31 : mm_at 43 31 = some (.iconst 0, 32, 0, .int (0)) := by decide +kernel
theorem k43_32 : mm_at 43 32 = some (.istore 4, 34, 4, .null) := by decide +kernel
theorem k43_34 : mm_at 43 34 = some (.iload 4, 36, 4, .null) := by decide +kernel
theorem k43_36 : mm_at 43 36 = some (.iload_n 3, 37, 3, .null) := by decide +kernel
theorem k43_37 : mm_at 43 37 = some (.if_icmp .ge 62, 40, 99, .null) := by decide +kernel
theorem k43_40 : mm_at 43 40 = some (.aload_n 0, 41, 0, .null) := by decide +kernel
theorem k43_41 : mm_at 43 41 = some (.getfield 40, 44, 504, .null) := by decide +kernel
theorem k43_44 : mm_at 43 44 = some (.iconst (-1), 45, 0, .int (-1)) := by decide +kernel
theorem k43_45 : mm_at 43 45 = some (.if_icmp .ne 54, 48, 99, .null) := by decide +kernel
theorem k43_48 : mm_at 43 48 = some (.aload_n 0, 49, 0, .null) := by decide +kernel
theorem k43_49 : mm_at 43 49 = some (.invokevirtual 61, 52, 131, .null) := by decide +kernel
theorem k43_52 : mm_at 43 52 = some (.invokestatic 65, 55, 132, .null) := by decide +kernel
theorem k43_55 : mm_at 43 55 = some (.iload_n 1, 56, 1, .null) := by decide +kernel
theorem k43_56 : mm_at 43 56 = some (.if_icmp .ne 43, 59, 99, .null) := by decide +kernel
theorem k43_59 : mm_at 43 59 = some (.aload_n 0, 60, 0, .null) := by decide +kernel
theorem k43_60 : mm_at 43 60 = some (.invokevirtual 61, 63, 131, .null) := by decide +kernel
theorem k43_63 : mm_at 43 63 = some (.istore 5, 65, 5, .null) := by decide +kernel
theorem k43_65 : mm_at 43 65 = some (.aload_n 0, 66, 0, .null) := by decide +kernel
theorem k43_66 : mm_at 43 66 = some (.dup, 67, 0, .null) := by decide +kernel
theorem k43_67 : mm_at 43 67 = some (.getfield 36, 70, 503, .null) := by decide +kernel
theorem k43_70 : mm_at 43 70 = some (.iconst 1, 71, 0, .int (1)) := by decide +kernel
theorem k43_71 : mm_at 43 71 = some (.iadd, 72, 0, .null) := by decide +kernel
theorem k43_72 : mm_at 43 72 = some (.putfield 36, 75, 503, .null) := by decide +kernel
theorem k43_75 : mm_at 43 75 = some (.aload_n 0, 76, 0, .null) := by decide +kernel
theorem k43_76 : mm_at 43 76 = some (.iload_n 1, 77, 1, .null) := by decide +kernel
theorem k43_77 : mm_at 43 77 = some (.iconst 1, 78, 0, .int (1)) := by decide +kernel
theorem k43_78 : mm_at 43 78 = some (.iadd, 79, 0, .null) := by decide +kernel
theorem k43_79 : mm_at 43 79 = some (.iload_n 2, 80, 2, .null) := by decide +kernel
theorem k43_80 : mm_at 43 80 = some (.invokevirtual 43, 83, 127, .null) := by decide +kernel
theorem k43_83 : mm_at 43 83 = some (.aload_n 0, 84, 0, .null) := by decide +kernel
theorem k43_84 : mm_at 43 84 = some (.getfield 14, 87, 500, .null) := by decide +kernel
theorem k43_87 : mm_at 43 87 = some (.iload 5, 89, 5, .null) := by decide +kernel
theorem k43_89 : mm_at 43 89 = some (.ineg, 90, 0, .null) := by decide +kernel
theorem k43_90 : mm_at 43 90 = some (.invokevirtual 68, 93, 133, .null) := by decide +kernel
theorem k43_93 : mm_at 43 93 = some (.iinc 4 1, 96, 4, .int (1)) := by decide +kernel
theorem k43_96 : mm_at 43 96 = some (.goto (-62), 99, 34, .null) := by decide +kernel
theorem k43_99 : mm_at 43 99 = some (.return_, 100, 0, .null) := by decide +kernel
theorem k44_0 : mm_at 44 0 = some (.iload_n 0, 1, 0, .null) := by decide +kernel
theorem k44_1 : mm_at 44 1 = some (.lookupswitch 101 #[(37, 99), (38, 93), (42, 99), (43, 97), (45, 97), (47, 99), (60, 95), (61, 95), (62, 95), (124, 91)], 92, 0, .null) := by decide +kernel
theorem k44_92 : mm_at 44 92 = some (.iconst 0, 93, 0, .int (0)) := by decide +kernel
theorem k44_93 : mm_at 44 93 = some (.ireturn, 94, 0, .null) := by decide +kernel
theorem k44_94 : mm_at 44 94 = some (.iconst 1, 95, 0, .int (1)) := by decide +kernel
theorem k44_95 : mm_at 44 95 = some (.ireturn, 96, 0, .null) := by decide +kernel
theorem k44_96 : mm_at 44 96 = some (.iconst 2, 97, 0, .int (2)) := by decide +kernel
theorem k44_97 : mm_at 44 97 = some (.ireturn, 98, 0, .null) := by decide +kernel
theorem k44_98 : mm_at 44 98 = some (.iconst 3, 99, 0, .int (3)) := by decide +kernel
theorem k44_99 : mm_at 44 99 = some (.ireturn, 100, 0, .null) := by decide +kernel
theorem k44_100 : mm_at 44 100 = some (.iconst 4, 101, 0, .int (4)) := by decide +kernel
theorem k44_101 : mm_at 44 101 = some (.ireturn, 102, 0, .null) := by decide +kernel
theorem k44_102 : mm_at 44 102 = some (.iconst (-1), 103, 0, .int (-1)) := by decide +kernel
theorem k44_103 : mm_at 44 103 = some (.ireturn, 104, 0, .null) := by decide +kernel
theorem k45_0 : mm_at 45 0 = some (.aload_n 0, 1, 0, .null) := by decide +kernel
theorem k45_1 : mm_at 45 1 = some (.invokevirtual 61, 4, 131, .null) := by decide +kernel
theorem k45_4 : mm_at 45 4 = some (.istore_n 2, 5, 2, .null) := by decide +kernel
theorem k45_5 : mm_at 45 5 = some (.iload_n 2, 6, 2, .null) := by decide +kernel
theorem k45_6 : mm_at 45 6 = some (.iconst (-1), 7, 0, .int (-1)) := by decide +kernel
theorem k45_7 : mm_at 45 7 = some (.if_icmp .ne 7, 10, 14, .null) := by decide +kernel
theorem k45_10 : mm_at 45 10 = some (.iconst (-1), 11, 0, .int (-1)) := by decide +kernel
theorem k45_11 : mm_at 45 11 = some (.goto 12, 14, 23, .null) := by decide +kernel
theorem k45_14 : mm_at 45 14 = some (.aload_n 0, 15, 0, .null) := by decide +kernel
theorem k45_15 : mm_at 45 15 = some (.getfield 25, 18, 502, .null) := by decide +kernel
theorem k45_18 : mm_at 45 18 = some (.iload_n 2, 19, 2, .null) := by decide +kernel
theorem k45_19 : mm_at 45 19 = some (.i2c, 20, 0, .null) := by decide +kernel
theorem k45_20 : mm_at 45 20 = some (.invokevirtual 71, 23, 134, .null) := by decide +kernel
theorem k45_23 : mm_at 45 23 = some (.istore_n 3, 24, 3, .null) := by decide +kernel
theorem k45_24 : mm_at 45 24 = some (.iload_n 2, 25, 2, .null) := by decide +kernel
theorem k45_25 : mm_at 45 25 = some (.invokestatic 76, 28, 135, .null) := by decide +kernel
theorem k45_28 : mm_at 45 28 = some (.ifCond .eq 10, 31, 38, .null) := by decide +kernel
theorem k45_31 : mm_at 45 31 = some (.aload_n 0, 32, 0, .null) := by decide +kernel
theorem k45_32 : mm_at 45 32 = some (.invokevirtual 79, 35, 136, .null) := by decide +kernel
theorem k45_35 : mm_at 45 35 = some (.goto 114, 38, 149, .null) := by decide +kernel
theorem k45_38 : mm_at 45 38 = some (.iload_n 3, 39, 3, .null) := by decide +kernel
theorem k45_39 : mm_at 45 39 = some (.ifCond .lt 26, 42, 65, .null) := by decide +kernel
theorem k45_42 : mm_at 45 42 = some (.aload_n 0, 43, 0, .null) := by decide +kernel
theorem k45_43 : mm_at 45 43 = some (.dup, 44, 0, .null) := by decide +kernel
theorem k45_44 : mm_at 45 44 = some (.getfield 36, 47, 503, .null) := by decide +kernel
theorem k45_47 : mm_at 45 47 = some (.iconst 1, 48, 0, .int (1)) := by decide +kernel
theorem k45_48 : mm_at 45 48 = some (.iadd, 49, 0, .null) := by decide +kernel
theorem k45_49 : mm_at 45 49 = some (.putfield 36, 52, 503, .null) := by decide +kernel
theorem k45_52 : mm_at 45 52 = some (.aload_n 0, 53, 0, .null) := by decide +kernel
theorem k45_53 : mm_at 45 53 = some (.getfield 14, 56, 500, .null) := by decide +kernel
theorem k45_56 : mm_at 45 56 = some (.iconst (-1), 57, 0, .int (-1)) := by decide +kernel
theorem k45_57 : mm_at 45 57 = some (.iload_n 3, 58, 3, .null) := by decide +kernel
theorem k45_58 : mm_at 45 58 = some (.isub, 59, 0, .null) := by decide +kernel
theorem k45_59 : mm_at 45 59 = some (.invokevirtual 68, 62, 133, .null) := by decide +kernel
theorem k45_62 : mm_at 45 62 = some (.goto 87, 65, 149, .null) := by decide +kernel
theorem k45_65 : mm_at 45 65 = some (.iload_n 2, 66, 2, .null) := by decide +kernel
theorem k45_66 : mm_at 45 66 = some (.bipush 33, 68, 0, .int (33)) := by decide +kernel
theorem k45_68 : mm_at 45 68 = some (.if_icmp .ne 37, 71, 105, .null) := by decide +kernel
theorem k45_71 : mm_at 45 71 = some (.iload_n 1, 72, 1, .null) := by decide +kernel
theorem k45_72 : mm_at 45 72 = some (.iconst 5, 73, 0, .int (5)) := by decide +kernel
theorem k45_73 : mm_at 45 73 = some (.if_icmp .ge 32, 76, 105, .null) := by decide +kernel
theorem k45_76 : mm_at 45 76 = some (.aload_n 0, 77, 0, .null) := by decide +kernel
theorem k45_77 : mm_at 45 77 = some (.dup, 78, 0, .null) := by decide +kernel
theorem k45_78 : mm_at 45 78 = some (.getfield 36, 81, 503, .null) := by decide +kernel
theorem k45_81 : mm_at 45 81 = some (.iconst 1, 82, 0, .int (1)) := by decide +kernel
theorem k45_82 : mm_at 45 82 = some (.iadd, 83, 0, .null) := by decide +kernel
theorem k45_83 : mm_at 45 83 = some (.putfield 36, 86, 503, .null) := by decide +kernel
theorem k45_86 : mm_at 45 86 = some (.aload_n 0, 87, 0, .null) := by decide +kernel
theorem k45_87 : mm_at 45 87 = some (.iload_n 1, 88, 1, .null) := by decide +kernel
theorem k45_88 : mm_at 45 88 = some (.iconst 1, 89, 0, .int (1)) := by decide +kernel
theorem k45_89 : mm_at 45 89 = some (.iadd, 90, 0, .null) := by decide +kernel
theorem k45_90 : mm_at 45 90 = some (.invokevirtual 57, 93, 130, .null) := by decide +kernel
theorem k45_93 : mm_at 45 93 = some (.aload_n 0, 94, 0, .null) := by decide +kernel
theorem k45_94 : mm_at 45 94 = some (.getfield 14, 97, 500, .null) := by decide +kernel
theorem k45_97 : mm_at 45 97 = some (.bipush (-33), 99, 0, .int (-33)) := by decide +kernel
theorem k45_99 : mm_at 45 99 = some (.invokevirtual 68, 102, 133, .null) := by decide +kernel
theorem k45_102 : mm_at 45 102 = some (.goto 47, 105, 149, .null) := by decide +kernel
theorem k45_105 : mm_at 45 105 = some (.iload_n 2, 106, 2, .null) := by decide +kernel
theorem k45_106 : mm_at 45 106 = some (.bipush 40, 108, 0, .int (40)) := by decide +kernel
theorem k45_108 : mm_at 45 108 = some (.if_icmp .ne 33, 111, 141, .null) := by decide +kernel
theorem k45_111 : mm_at 45 111 = some (.iload_n 1, 112, 1, .null) := by decide +kernel
theorem k45_112 : mm_at 45 112 = some (.iconst 5, 113, 0, .int (5)) := by decide +kernel
theorem k45_113 : mm_at 45 113 = some (.if_icmp .ge 28, 116, 141, .null) := by decide +kernel
theorem k45_116 : mm_at 45 116 = some (.aload_n 0, 117, 0, .null) := by decide +kernel
theorem k45_117 : mm_at 45 117 = some (.dup, 118, 0, .null) := by decide +kernel
theorem k45_118 : mm_at 45 118 = some (.getfield 36, 121, 503, .null) := by decide +kernel
theorem k45_121 : mm_at 45 121 = some (.iconst 1, 122, 0, .int (1)) := by decide +kernel
theorem k45_122 : mm_at 45 122 = some (.iadd, 123, 0, .null) := by decide +kernel
theorem k45_123 : mm_at 45 123 = some (.putfield 36, 126, 503, .null) := by decide +kernel
theorem k45_126 : mm_at 45 126 = some (.aload_n 0, 127, 0, .null) := by decide +kernel
theorem k45_127 : mm_at 45 127 = some (.iconst 0, 128, 0, .int (0)) := by decide +kernel
theorem k45_128 : mm_at 45 128 = some (.iload_n 1, 129, 1, .null) := by decide +kernel
theorem k45_129 : mm_at 45 129 = some (.iconst 1, 130, 0, .int (1)) := by decide +kernel
theorem k45_130 : mm_at 45 130 = some (.iadd, 131, 0, .null) := by decide +kernel
theorem k45_131 : mm_at 45 131 = some (.invokevirtual 43, 134, 127, .null) := by decide +kernel
theorem k45_134 : mm_at 45 134 = some (.aload_n 0, 135, 0, .null) := by decide +kernel
theorem k45_135 : mm_at 45 135 = some (.invokevirtual 84, 138, 137, .null) := by decide +kernel
theorem k45_138 : mm_at 45 138 = some (.goto 11, 141, 149, .null) := by decide +kernel
theorem k45_141 : mm_at 45 141 = some (.aload_n 0, 142, 0, .null) := by decide +kernel
theorem k45_142 : mm_at 45 142 = some (.aload_n 0, 143, 0, .null) := by decide +kernel
theorem k45_143 : mm_at 45 143 = some (.getfield 36, 146, 503, .null) := by decide +kernel
theorem k45_146 : mm_at 45 146 = some (.putfield 40, 149, 504, .null) := by decide +kernel
theorem k45_149 : mm_at 45 149 = some (.return_, 150, 0, .null) := by decide +kernel
theorem k46_0 : mm_at 46 0 = some (.iconst 0, 1, 0, .int (0)) := by decide +kernel
theorem k46_1 : mm_at 46 1 = some (.istore_n 1, 2, 1, .null) := by decide +kernel
theorem k46_2 : mm_at 46 2 = some (.iconst 0, 3, 0, .int (0)) := by decide +kernel
theorem k46_3 : mm_at 46 3 = some (.istore_n 2, 4, 2, .null) := by decide +kernel
theorem k46_4 : mm_at 46 4 = some (.iload_n 2, 5, 2, .null) := by decide +kernel
theorem k46_5 : mm_at 46 5 = some (.iconst 4, 6, 0, .int (4)) := by decide +kernel
theorem k46_6 : mm_at 46 6 = some (.if_icmp .ge 42, 9, 48, .null) := by decide +kernel
theorem k46_9 : mm_at 46 9 = some (.aload_n 0, 10, 0, .null) := by decide +kernel
theorem k46_10 : mm_at 46 10 = some (.invokevirtual 61, 13, 131, .null) := by decide +kernel
theorem k46_13 : mm_at 46 13 = some (.invokestatic 76, 16, 135, .null) := by decide +kernel
theorem k46_16 : mm_at 46 16 = some (.ifCond .eq 32, 19, 48, .null) := by decide +kernel
theorem k46_19 : mm_at 46 19 = some (.iload_n 1, 20, 1, .null) := by decide +kernel
theorem k46_20 : mm_at 46 20 = some (.bipush 10, 22, 0, .int (10)) := by decide +kernel
theorem k46_22 : mm_at 46 22 = some (.imul, 23, 0, .null) := by decide +kernel
theorem k46_23 : mm_at 46 23 = some (.aload_n 0, 24, 0, .null) := by decide +kernel
theorem k46_24 : mm_at 46 24 = some (.invokevirtual 61, 27, 131, .null) := by decide +kernel
theorem k46_27 : mm_at 46 27 = some (.iadd, 28, 0, .null) := by decide +kernel
theorem k46_28 : mm_at 46 28 = some (.bipush 48, 30, 0, .int (48)) := by decide +kernel
theorem k46_30 : mm_at 46 30 = some (.isub, 31, 0, .null) := by decide +kernel
theorem k46_31 : mm_at 46 31 = some (.istore_n 1, 32, 1, .null) := by decide +kernel
theorem k46_32 : mm_at 46 32 = some (.aload_n 0, 33, 0, .null) := by decide +kernel
theorem k46_33 : mm_at 46 33 = some (.dup, 34, 0, .null) := by decide +kernel
theorem k46_34 : mm_at 46 34 = some (.getfield 36, 37, 503, .null) := by decide +kernel
theorem k46_37 : mm_at 46 37 = some (.iconst 1, 38, 0, .int (1)) := by decide +kernel
theorem k46_38 : mm_at 46 38 = some (.iadd, 39, 0, .null) := by decide +kernel
theorem k46_39 : mm_at 46 39 = some (.putfield 36, 42, 503, .null) := by decide +kernel
theorem k46_42 : mm_at 46 42 = some (.iinc 2 1, 45, 2, .int (1)) := by decide +kernel
theorem k46_45 : mm_at 46 45 = some (.goto (-41), 48, 4, .null) := by decide +kernel
theorem k46_48 : mm_at 46 48 = some (.aload_n 0, 49, 0, .null) := by decide +kernel
theorem k46_49 : mm_at 46 49 = some (.getfield 14, 52, 500, .null) := by decide +kernel
theorem k46_52 : mm_at 46 52 = some (.iload_n 1, 53, 1, .null) := by decide +kernel
theorem k46_53 : mm_at 46 53 = some (.invokevirtual 68, 56, 133, .null) := by decide +kernel
theorem k46_56 : mm_at 46 56 = some (.return_, 57, 0, .null) := by decide +kernel
theorem k47_0 : mm_at 47 0 = some (.aload_n 0, 1, 0, .null) := by decide +kernel
theorem k47_1 : mm_at 47 1 = some (.getfield 40, 4, 504, .null) := by decide +kernel
theorem k47_4 : mm_at 47 4 = some (.iconst (-1), 5, 0, .int (-1)) := by decide +kernel
theorem k47_5 : mm_at 47 5 = some (.if_icmp .eq 4, 8, 9, .null) := by decide +kernel
theorem k47_8 : mm_at 47 8 = some (.return_, 9, 0, .null) := by decide +kernel
theorem k47_9 : mm_at 47 9 = some (.aload_n 0, 10, 0, .null) := by decide +kernel
theorem k47_10 : mm_at 47 10 = some (.invokevirtual 61, 13, 131, .null) := by decide +kernel
theorem k47_13 : mm_at 47 13 = some (.bipush 41, 15, 0, .int (41)) := by decide +kernel
theorem k47_15 : mm_at 47 15 = some (.if_icmp .ne 16, 18, 31, .null) := by decide +kernel
theorem k47_18 : mm_at 47 18 = some (.aload_n 0, 19, 0, .null) := by decide +kernel
theorem k47_19 : mm_at 47 19 = some (.dup, 20, 0, .null) := by decide +kernel
theorem k47_20 : mm_at 47 20 = some (.getfield 36, 23, 503, .null) := by decide +kernel
theorem k47_23 : mm_at 47 23 = some (.iconst 1, 24, 0, .int (1)) := by decide +kernel
theorem k47_24 : mm_at 47 24 = some (.iadd, 25, 0, .null) := by decide +kernel
theorem k47_25 : mm_at 47 25 = some (.putfield 36, 28, 503, .null) := by decide +kernel
theorem k47_28 : mm_at 47 28 = some (.goto 11, 31, 39, .null) := by decide +kernel
theorem k47_31 : mm_at 47 31 = some (.aload_n 0, 32, 0, .null) := by decide +kernel
theorem k47_32 : mm_at 47 32 = some (.aload_n 0, 33, 0, .null) := by decide +kernel
theorem k47_33 : mm_at 47 33 = some (.getfield 36, 36, 503, .null) := by decide +kernel
theorem k47_36 : mm_at 47 36 = some (.putfield 40, 39, 504, .null) := by decide +kernel
theorem k47_39 : mm_at 47 39 = some (.return_, 40, 0, .null) := by decide +kernel
theorem k48_0 : mm_at 48 0 = some (.iload_n 0, 1, 0, .null) := by decide +kernel
theorem k48_1 : mm_at 48 1 = some (.bipush 48, 3, 0, .int (48)) := by decide +kernel
theorem k48_3 : mm_at 48 3 = some (.if_icmp .lt 13, 6, 16, .null) := by decide +kernel
theorem k48_6 : mm_at 48 6 = some (.iload_n 0, 7, 0, .null) := by decide +kernel
theorem k48_7 : mm_at 48 7 = some (.bipush 57, 9, 0, .int (57)) := by decide +kernel
theorem k48_9 : mm_at 48 9 = some (.if_icmp .gt 7, 12, 16, .null) := by decide +kernel
theorem k48_12 : mm_at 48 12 = some (.iconst 1, 13, 0, .int (1)) := by decide +kernel
theorem k48_13 : mm_at 48 13 = some (.goto 4, 16, 17, .null) := by decide +kernel
theorem k48_16 : mm_at 48 16 = some (.iconst 0, 17, 0, .int (0)) := by decide +kernel
theorem k48_17 : mm_at 48 17 = some (.ireturn, 18, 0, .null) := by decide +kernel
theorem k49_0 : mm_at 49 0 = some (.aload_n 0, 1, 0, .null) := by decide +kernel
theorem k49_1 : mm_at 49 1 = some (.aload_n 1, 2, 1, .null) := by decide +kernel
theorem k49_2 : mm_at 49 2 = some (.invokespecial 3, 5, 138, .null) := by decide +kernel
theorem k49_5 : mm_at 49 5 = some (.return_, 6, 0, .null) := by decide +kernel
