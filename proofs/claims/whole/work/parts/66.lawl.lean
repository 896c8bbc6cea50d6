/-- the law's call 0: chair -/
theorem lw_c0 {L : Nat} {xs : Nat → Int32} {d i : Nat} {I : mm_I} {Q : Option Value → mm_I → Prop} (hL : L ≤ 3072) (hi : i + 6 ≤ L) (inv : Inv I) (next : ∀ K, Inv K → mm_Ev mm_T0 (L, xs) (d + 61) 0 1398 [.ref 1000, .ref 0, .ref 91, .int (nI i)] [] K Q) : mm_Ev mm_T0 (L, xs) (d + 61) 0 208 [.ref 1000, .ref 0, .ref 91, .int (nI i)] [] I Q := by
  refine ev_ald1 k0_208 ?_
  refine ev_ald0 k0_209 ?_
  refine ev_ild3 k0_210 ?_
  refine ev_iconst k0_211 ?_
  refine ev_iadd k0_212 ?_
  rw [show nI i + (1 : Int32) = nI (i + 1) from nI_add i 1]
  refine ev_ialoadX k0_213 (vp_in_nI (show i + 1 < L by omega) (by omega)) ?_
  rw [nI_clamp (show i + 1 < 2 ^ 31 by omega)]
  refine ev_ald0 k0_214 ?_
  refine ev_ild3 k0_215 ?_
  refine ev_iconst k0_216 ?_
  refine ev_iadd k0_217 ?_
  rw [show nI i + (2 : Int32) = nI (i + 2) from nI_add i 2]
  refine ev_ialoadX k0_218 (vp_in_nI (show i + 2 < L by omega) (by omega)) ?_
  rw [nI_clamp (show i + 2 < 2 ^ 31 by omega)]
  refine ev_cV3i k0_219 cs_2 rfl (by omega) (Nat.le_of_ble_eq_true rfl) rfl rfl rfl ?_
  refine op_chair inv (fun v J h => ?_)
  refine ev_ald2 k0_222 ?_
  refine ev_ald0 k0_223 ?_
  refine ev_ild3 k0_224 ?_
  refine ev_iconst k0_225 ?_
  refine ev_iadd k0_226 ?_
  rw [show nI i + (1 : Int32) = nI (i + 1) from nI_add i 1]
  refine ev_ialoadX k0_227 (vp_in_nI (show i + 1 < L by omega) (by omega)) ?_
  rw [nI_clamp (show i + 1 < 2 ^ 31 by omega)]
  refine ev_ald0 k0_228 ?_
  refine ev_ild3 k0_229 ?_
  refine ev_iconst k0_230 ?_
  refine ev_iadd k0_231 ?_
  rw [show nI i + (2 : Int32) = nI (i + 2) from nI_add i 2]
  refine ev_ialoadX k0_232 (vp_in_nI (show i + 2 < L by omega) (by omega)) ?_
  rw [nI_clamp (show i + 2 < 2 ^ 31 by omega)]
  refine ev_cV3i k0_233 cs_3 rfl (by omega) (Nat.le_of_ble_eq_true rfl) rfl rfl rfl ?_
  refine ev_mono h (fun w K hw => ?_)
  obtain ⟨rfl, inv2⟩ := hw
  refine ev_icmp_eq k0_236 (fun _ => ?_) (fun hh => absurd rfl hh)
  exact next K inv2
/-- the law's call 1: ofChair -/
theorem lw_c1 {L : Nat} {xs : Nat → Int32} {d i : Nat} {I : mm_I} {Q : Option Value → mm_I → Prop} (hL : L ≤ 3072) (hi : i + 6 ≤ L) (inv : Inv I) (next : ∀ K, Inv K → mm_Ev mm_T0 (L, xs) (d + 61) 0 1398 [.ref 1000, .ref 0, .ref 91, .int (nI i)] [] K Q) : mm_Ev mm_T0 (L, xs) (d + 61) 0 241 [.ref 1000, .ref 0, .ref 91, .int (nI i)] [] I Q := by
  refine ev_ald1 k0_241 ?_
  refine ev_ald0 k0_242 ?_
  refine ev_ild3 k0_243 ?_
  refine ev_iconst k0_244 ?_
  refine ev_iadd k0_245 ?_
  rw [show nI i + (1 : Int32) = nI (i + 1) from nI_add i 1]
  refine ev_ialoadX k0_246 (vp_in_nI (show i + 1 < L by omega) (by omega)) ?_
  rw [nI_clamp (show i + 1 < 2 ^ 31 by omega)]
  refine ev_ald0 k0_247 ?_
  refine ev_ild3 k0_248 ?_
  refine ev_iconst k0_249 ?_
  refine ev_iadd k0_250 ?_
  rw [show nI i + (2 : Int32) = nI (i + 2) from nI_add i 2]
  refine ev_ialoadX k0_251 (vp_in_nI (show i + 2 < L by omega) (by omega)) ?_
  rw [nI_clamp (show i + 2 < 2 ^ 31 by omega)]
  refine ev_cV3i k0_252 cs_4 rfl (by omega) (Nat.le_of_ble_eq_true rfl) rfl rfl rfl ?_
  refine op_ofChair inv (fun v J h => ?_)
  refine ev_ald2 k0_255 ?_
  refine ev_ald0 k0_256 ?_
  refine ev_ild3 k0_257 ?_
  refine ev_iconst k0_258 ?_
  refine ev_iadd k0_259 ?_
  rw [show nI i + (1 : Int32) = nI (i + 1) from nI_add i 1]
  refine ev_ialoadX k0_260 (vp_in_nI (show i + 1 < L by omega) (by omega)) ?_
  rw [nI_clamp (show i + 1 < 2 ^ 31 by omega)]
  refine ev_ald0 k0_261 ?_
  refine ev_ild3 k0_262 ?_
  refine ev_iconst k0_263 ?_
  refine ev_iadd k0_264 ?_
  rw [show nI i + (2 : Int32) = nI (i + 2) from nI_add i 2]
  refine ev_ialoadX k0_265 (vp_in_nI (show i + 2 < L by omega) (by omega)) ?_
  rw [nI_clamp (show i + 2 < 2 ^ 31 by omega)]
  refine ev_cV3i k0_266 cs_5 rfl (by omega) (Nat.le_of_ble_eq_true rfl) rfl rfl rfl ?_
  refine ev_mono h (fun w K hw => ?_)
  obtain ⟨rfl, inv2⟩ := hw
  refine ev_icmp_eq k0_269 (fun _ => ?_) (fun hh => absurd rfl hh)
  exact next K inv2
/-- the law's call 2: stuff -/
theorem lw_c2 {L : Nat} {xs : Nat → Int32} {d i : Nat} {I : mm_I} {Q : Option Value → mm_I → Prop} (hL : L ≤ 3072) (hi : i + 6 ≤ L) (inv : Inv I) (next : ∀ K, Inv K → mm_Ev mm_T0 (L, xs) (d + 61) 0 1398 [.ref 1000, .ref 0, .ref 91, .int (nI i)] [] K Q) : mm_Ev mm_T0 (L, xs) (d + 61) 0 274 [.ref 1000, .ref 0, .ref 91, .int (nI i)] [] I Q := by
  refine ev_ald1 k0_274 ?_
  refine ev_ald0 k0_275 ?_
  refine ev_ild3 k0_276 ?_
  refine ev_iconst k0_277 ?_
  refine ev_iadd k0_278 ?_
  rw [show nI i + (1 : Int32) = nI (i + 1) from nI_add i 1]
  refine ev_ialoadX k0_279 (vp_in_nI (show i + 1 < L by omega) (by omega)) ?_
  rw [nI_clamp (show i + 1 < 2 ^ 31 by omega)]
  refine ev_ald0 k0_280 ?_
  refine ev_ild3 k0_281 ?_
  refine ev_iconst k0_282 ?_
  refine ev_iadd k0_283 ?_
  rw [show nI i + (2 : Int32) = nI (i + 2) from nI_add i 2]
  refine ev_ialoadX k0_284 (vp_in_nI (show i + 2 < L by omega) (by omega)) ?_
  rw [nI_clamp (show i + 2 < 2 ^ 31 by omega)]
  refine ev_ald0 k0_285 ?_
  refine ev_ild3 k0_286 ?_
  refine ev_iconst k0_287 ?_
  refine ev_iadd k0_288 ?_
  rw [show nI i + (3 : Int32) = nI (i + 3) from nI_add i 3]
  refine ev_ialoadX k0_289 (vp_in_nI (show i + 3 < L by omega) (by omega)) ?_
  rw [nI_clamp (show i + 3 < 2 ^ 31 by omega)]
  refine ev_cV4i k0_290 cs_6 rfl (by omega) (Nat.le_of_ble_eq_true rfl) rfl rfl rfl ?_
  refine op_stuff inv (fun v J h => ?_)
  refine ev_ald2 k0_293 ?_
  refine ev_ald0 k0_294 ?_
  refine ev_ild3 k0_295 ?_
  refine ev_iconst k0_296 ?_
  refine ev_iadd k0_297 ?_
  rw [show nI i + (1 : Int32) = nI (i + 1) from nI_add i 1]
  refine ev_ialoadX k0_298 (vp_in_nI (show i + 1 < L by omega) (by omega)) ?_
  rw [nI_clamp (show i + 1 < 2 ^ 31 by omega)]
  refine ev_ald0 k0_299 ?_
  refine ev_ild3 k0_300 ?_
  refine ev_iconst k0_301 ?_
  refine ev_iadd k0_302 ?_
  rw [show nI i + (2 : Int32) = nI (i + 2) from nI_add i 2]
  refine ev_ialoadX k0_303 (vp_in_nI (show i + 2 < L by omega) (by omega)) ?_
  rw [nI_clamp (show i + 2 < 2 ^ 31 by omega)]
  refine ev_ald0 k0_304 ?_
  refine ev_ild3 k0_305 ?_
  refine ev_iconst k0_306 ?_
  refine ev_iadd k0_307 ?_
  rw [show nI i + (3 : Int32) = nI (i + 3) from nI_add i 3]
  refine ev_ialoadX k0_308 (vp_in_nI (show i + 3 < L by omega) (by omega)) ?_
  rw [nI_clamp (show i + 3 < 2 ^ 31 by omega)]
  refine ev_cV4i k0_309 cs_7 rfl (by omega) (Nat.le_of_ble_eq_true rfl) rfl rfl rfl ?_
  refine ev_mono h (fun w K hw => ?_)
  obtain ⟨rfl, inv2⟩ := hw
  refine ev_icmp_eq k0_312 (fun _ => ?_) (fun hh => absurd rfl hh)
  exact next K inv2
/-- the law's call 3: become -/
theorem lw_c3 {L : Nat} {xs : Nat → Int32} {d i : Nat} {I : mm_I} {Q : Option Value → mm_I → Prop} (hL : L ≤ 3072) (hi : i + 6 ≤ L) (inv : Inv I) (next : ∀ K, Inv K → mm_Ev mm_T0 (L, xs) (d + 61) 0 1398 [.ref 1000, .ref 0, .ref 91, .int (nI i)] [] K Q) : mm_Ev mm_T0 (L, xs) (d + 61) 0 317 [.ref 1000, .ref 0, .ref 91, .int (nI i)] [] I Q := by
  refine ev_ald1 k0_317 ?_
  refine ev_ald0 k0_318 ?_
  refine ev_ild3 k0_319 ?_
  refine ev_iconst k0_320 ?_
  refine ev_iadd k0_321 ?_
  rw [show nI i + (1 : Int32) = nI (i + 1) from nI_add i 1]
  refine ev_ialoadX k0_322 (vp_in_nI (show i + 1 < L by omega) (by omega)) ?_
  rw [nI_clamp (show i + 1 < 2 ^ 31 by omega)]
  refine ev_ald0 k0_323 ?_
  refine ev_ild3 k0_324 ?_
  refine ev_iconst k0_325 ?_
  refine ev_iadd k0_326 ?_
  rw [show nI i + (2 : Int32) = nI (i + 2) from nI_add i 2]
  refine ev_ialoadX k0_327 (vp_in_nI (show i + 2 < L by omega) (by omega)) ?_
  rw [nI_clamp (show i + 2 < 2 ^ 31 by omega)]
  refine ev_cV3i k0_328 cs_8 rfl (by omega) (Nat.le_of_ble_eq_true rfl) rfl rfl rfl ?_
  refine op_become inv (fun v J h => ?_)
  refine ev_ald2 k0_331 ?_
  refine ev_ald0 k0_332 ?_
  refine ev_ild3 k0_333 ?_
  refine ev_iconst k0_334 ?_
  refine ev_iadd k0_335 ?_
  rw [show nI i + (1 : Int32) = nI (i + 1) from nI_add i 1]
  refine ev_ialoadX k0_336 (vp_in_nI (show i + 1 < L by omega) (by omega)) ?_
  rw [nI_clamp (show i + 1 < 2 ^ 31 by omega)]
  refine ev_ald0 k0_337 ?_
  refine ev_ild3 k0_338 ?_
  refine ev_iconst k0_339 ?_
  refine ev_iadd k0_340 ?_
  rw [show nI i + (2 : Int32) = nI (i + 2) from nI_add i 2]
  refine ev_ialoadX k0_341 (vp_in_nI (show i + 2 < L by omega) (by omega)) ?_
  rw [nI_clamp (show i + 2 < 2 ^ 31 by omega)]
  refine ev_cV3i k0_342 cs_9 rfl (by omega) (Nat.le_of_ble_eq_true rfl) rfl rfl rfl ?_
  refine ev_mono h (fun w K hw => ?_)
  obtain ⟨rfl, inv2⟩ := hw
  refine ev_icmp_eq k0_345 (fun _ => ?_) (fun hh => absurd rfl hh)
  exact next K inv2
/-- the law's call 4: as -/
theorem lw_c4 {L : Nat} {xs : Nat → Int32} {d i : Nat} {I : mm_I} {Q : Option Value → mm_I → Prop} (hL : L ≤ 3072) (hi : i + 6 ≤ L) (inv : Inv I) (next : ∀ K, Inv K → mm_Ev mm_T0 (L, xs) (d + 61) 0 1398 [.ref 1000, .ref 0, .ref 91, .int (nI i)] [] K Q) : mm_Ev mm_T0 (L, xs) (d + 61) 0 350 [.ref 1000, .ref 0, .ref 91, .int (nI i)] [] I Q := by
  refine ev_ald1 k0_350 ?_
  refine ev_ald0 k0_351 ?_
  refine ev_ild3 k0_352 ?_
  refine ev_iconst k0_353 ?_
  refine ev_iadd k0_354 ?_
  rw [show nI i + (1 : Int32) = nI (i + 1) from nI_add i 1]
  refine ev_ialoadX k0_355 (vp_in_nI (show i + 1 < L by omega) (by omega)) ?_
  rw [nI_clamp (show i + 1 < 2 ^ 31 by omega)]
  refine ev_ald0 k0_356 ?_
  refine ev_ild3 k0_357 ?_
  refine ev_iconst k0_358 ?_
  refine ev_iadd k0_359 ?_
  rw [show nI i + (2 : Int32) = nI (i + 2) from nI_add i 2]
  refine ev_ialoadX k0_360 (vp_in_nI (show i + 2 < L by omega) (by omega)) ?_
  rw [nI_clamp (show i + 2 < 2 ^ 31 by omega)]
  refine ev_cV3i k0_361 cs_10 rfl (by omega) (Nat.le_of_ble_eq_true rfl) rfl rfl rfl ?_
  refine op_as inv (fun v J h => ?_)
  refine ev_ald2 k0_364 ?_
  refine ev_ald0 k0_365 ?_
  refine ev_ild3 k0_366 ?_
  refine ev_iconst k0_367 ?_
  refine ev_iadd k0_368 ?_
  rw [show nI i + (1 : Int32) = nI (i + 1) from nI_add i 1]
  refine ev_ialoadX k0_369 (vp_in_nI (show i + 1 < L by omega) (by omega)) ?_
  rw [nI_clamp (show i + 1 < 2 ^ 31 by omega)]
  refine ev_ald0 k0_370 ?_
  refine ev_ild3 k0_371 ?_
  refine ev_iconst k0_372 ?_
  refine ev_iadd k0_373 ?_
  rw [show nI i + (2 : Int32) = nI (i + 2) from nI_add i 2]
  refine ev_ialoadX k0_374 (vp_in_nI (show i + 2 < L by omega) (by omega)) ?_
  rw [nI_clamp (show i + 2 < 2 ^ 31 by omega)]
  refine ev_cV3i k0_375 cs_11 rfl (by omega) (Nat.le_of_ble_eq_true rfl) rfl rfl rfl ?_
  refine ev_mono h (fun w K hw => ?_)
  obtain ⟨rfl, inv2⟩ := hw
  refine ev_icmp_eq k0_378 (fun _ => ?_) (fun hh => absurd rfl hh)
  exact next K inv2
/-- the law's call 5: member -/
theorem lw_c5 {L : Nat} {xs : Nat → Int32} {d i : Nat} {I : mm_I} {Q : Option Value → mm_I → Prop} (hL : L ≤ 3072) (hi : i + 6 ≤ L) (inv : Inv I) (next : ∀ K, Inv K → mm_Ev mm_T0 (L, xs) (d + 61) 0 1398 [.ref 1000, .ref 0, .ref 91, .int (nI i)] [] K Q) : mm_Ev mm_T0 (L, xs) (d + 61) 0 383 [.ref 1000, .ref 0, .ref 91, .int (nI i)] [] I Q := by
  refine ev_ald1 k0_383 ?_
  refine ev_ald0 k0_384 ?_
  refine ev_ild3 k0_385 ?_
  refine ev_iconst k0_386 ?_
  refine ev_iadd k0_387 ?_
  rw [show nI i + (1 : Int32) = nI (i + 1) from nI_add i 1]
  refine ev_ialoadX k0_388 (vp_in_nI (show i + 1 < L by omega) (by omega)) ?_
  rw [nI_clamp (show i + 1 < 2 ^ 31 by omega)]
  refine ev_cV2i k0_389 cs_12 rfl (by omega) (Nat.le_of_ble_eq_true rfl) rfl rfl rfl ?_
  refine op_member inv (fun v J h => ?_)
  refine ev_ald2 k0_392 ?_
  refine ev_ald0 k0_393 ?_
  refine ev_ild3 k0_394 ?_
  refine ev_iconst k0_395 ?_
  refine ev_iadd k0_396 ?_
  rw [show nI i + (1 : Int32) = nI (i + 1) from nI_add i 1]
  refine ev_ialoadX k0_397 (vp_in_nI (show i + 1 < L by omega) (by omega)) ?_
  rw [nI_clamp (show i + 1 < 2 ^ 31 by omega)]
  refine ev_cV2i k0_398 cs_13 rfl (by omega) (Nat.le_of_ble_eq_true rfl) rfl rfl rfl ?_
  refine ev_mono h (fun w K hw => ?_)
  obtain ⟨rfl, inv2⟩ := hw
  refine ev_icmp_eq k0_401 (fun _ => ?_) (fun hh => absurd rfl hh)
  exact next K inv2
/-- the law's call 6: ofMember -/
theorem lw_c6 {L : Nat} {xs : Nat → Int32} {d i : Nat} {I : mm_I} {Q : Option Value → mm_I → Prop} (hL : L ≤ 3072) (hi : i + 6 ≤ L) (inv : Inv I) (next : ∀ K, Inv K → mm_Ev mm_T0 (L, xs) (d + 61) 0 1398 [.ref 1000, .ref 0, .ref 91, .int (nI i)] [] K Q) : mm_Ev mm_T0 (L, xs) (d + 61) 0 406 [.ref 1000, .ref 0, .ref 91, .int (nI i)] [] I Q := by
  refine ev_ald1 k0_406 ?_
  refine ev_ald0 k0_407 ?_
  refine ev_ild3 k0_408 ?_
  refine ev_iconst k0_409 ?_
  refine ev_iadd k0_410 ?_
  rw [show nI i + (1 : Int32) = nI (i + 1) from nI_add i 1]
  refine ev_ialoadX k0_411 (vp_in_nI (show i + 1 < L by omega) (by omega)) ?_
  rw [nI_clamp (show i + 1 < 2 ^ 31 by omega)]
  refine ev_ald0 k0_412 ?_
  refine ev_ild3 k0_413 ?_
  refine ev_iconst k0_414 ?_
  refine ev_iadd k0_415 ?_
  rw [show nI i + (2 : Int32) = nI (i + 2) from nI_add i 2]
  refine ev_ialoadX k0_416 (vp_in_nI (show i + 2 < L by omega) (by omega)) ?_
  rw [nI_clamp (show i + 2 < 2 ^ 31 by omega)]
  refine ev_cV3i k0_417 cs_14 rfl (by omega) (Nat.le_of_ble_eq_true rfl) rfl rfl rfl ?_
  refine op_ofMember inv (fun v J h => ?_)
  refine ev_ald2 k0_420 ?_
  refine ev_ald0 k0_421 ?_
  refine ev_ild3 k0_422 ?_
  refine ev_iconst k0_423 ?_
  refine ev_iadd k0_424 ?_
  rw [show nI i + (1 : Int32) = nI (i + 1) from nI_add i 1]
  refine ev_ialoadX k0_425 (vp_in_nI (show i + 1 < L by omega) (by omega)) ?_
  rw [nI_clamp (show i + 1 < 2 ^ 31 by omega)]
  refine ev_ald0 k0_426 ?_
  refine ev_ild3 k0_427 ?_
  refine ev_iconst k0_428 ?_
  refine ev_iadd k0_429 ?_
  rw [show nI i + (2 : Int32) = nI (i + 2) from nI_add i 2]
  refine ev_ialoadX k0_430 (vp_in_nI (show i + 2 < L by omega) (by omega)) ?_
  rw [nI_clamp (show i + 2 < 2 ^ 31 by omega)]
  refine ev_cV3i k0_431 cs_15 rfl (by omega) (Nat.le_of_ble_eq_true rfl) rfl rfl rfl ?_
  refine ev_mono h (fun w K hw => ?_)
  obtain ⟨rfl, inv2⟩ := hw
  refine ev_icmp_eq k0_434 (fun _ => ?_) (fun hh => absurd rfl hh)
  exact next K inv2
/-- the law's call 7: change -/
theorem lw_c7 {L : Nat} {xs : Nat → Int32} {d i : Nat} {I : mm_I} {Q : Option Value → mm_I → Prop} (hL : L ≤ 3072) (hi : i + 6 ≤ L) (inv : Inv I) (next : ∀ K, Inv K → mm_Ev mm_T0 (L, xs) (d + 61) 0 1398 [.ref 1000, .ref 0, .ref 91, .int (nI i)] [] K Q) : mm_Ev mm_T0 (L, xs) (d + 61) 0 439 [.ref 1000, .ref 0, .ref 91, .int (nI i)] [] I Q := by
  refine ev_ald1 k0_439 ?_
  refine ev_ald0 k0_440 ?_
  refine ev_ild3 k0_441 ?_
  refine ev_iconst k0_442 ?_
  refine ev_iadd k0_443 ?_
  rw [show nI i + (1 : Int32) = nI (i + 1) from nI_add i 1]
  refine ev_ialoadX k0_444 (vp_in_nI (show i + 1 < L by omega) (by omega)) ?_
  rw [nI_clamp (show i + 1 < 2 ^ 31 by omega)]
  refine ev_ald0 k0_445 ?_
  refine ev_ild3 k0_446 ?_
  refine ev_iconst k0_447 ?_
  refine ev_iadd k0_448 ?_
  rw [show nI i + (2 : Int32) = nI (i + 2) from nI_add i 2]
  refine ev_ialoadX k0_449 (vp_in_nI (show i + 2 < L by omega) (by omega)) ?_
  rw [nI_clamp (show i + 2 < 2 ^ 31 by omega)]
  refine ev_ald0 k0_450 ?_
  refine ev_ild3 k0_451 ?_
  refine ev_iconst k0_452 ?_
  refine ev_iadd k0_453 ?_
  rw [show nI i + (3 : Int32) = nI (i + 3) from nI_add i 3]
  refine ev_ialoadX k0_454 (vp_in_nI (show i + 3 < L by omega) (by omega)) ?_
  rw [nI_clamp (show i + 3 < 2 ^ 31 by omega)]
  refine ev_cV4i k0_455 cs_16 rfl (by omega) (Nat.le_of_ble_eq_true rfl) rfl rfl rfl ?_
  refine op_change inv (fun v J h => ?_)
  refine ev_ald2 k0_458 ?_
  refine ev_ald0 k0_459 ?_
  refine ev_ild3 k0_460 ?_
  refine ev_iconst k0_461 ?_
  refine ev_iadd k0_462 ?_
  rw [show nI i + (1 : Int32) = nI (i + 1) from nI_add i 1]
  refine ev_ialoadX k0_463 (vp_in_nI (show i + 1 < L by omega) (by omega)) ?_
  rw [nI_clamp (show i + 1 < 2 ^ 31 by omega)]
  refine ev_ald0 k0_464 ?_
  refine ev_ild3 k0_465 ?_
  refine ev_iconst k0_466 ?_
  refine ev_iadd k0_467 ?_
  rw [show nI i + (2 : Int32) = nI (i + 2) from nI_add i 2]
  refine ev_ialoadX k0_468 (vp_in_nI (show i + 2 < L by omega) (by omega)) ?_
  rw [nI_clamp (show i + 2 < 2 ^ 31 by omega)]
  refine ev_ald0 k0_469 ?_
  refine ev_ild3 k0_470 ?_
  refine ev_iconst k0_471 ?_
  refine ev_iadd k0_472 ?_
  rw [show nI i + (3 : Int32) = nI (i + 3) from nI_add i 3]
  refine ev_ialoadX k0_473 (vp_in_nI (show i + 3 < L by omega) (by omega)) ?_
  rw [nI_clamp (show i + 3 < 2 ^ 31 by omega)]
  refine ev_cV4i k0_474 cs_17 rfl (by omega) (Nat.le_of_ble_eq_true rfl) rfl rfl rfl ?_
  refine ev_mono h (fun w K hw => ?_)
  obtain ⟨rfl, inv2⟩ := hw
  refine ev_icmp_eq k0_477 (fun _ => ?_) (fun hh => absurd rfl hh)
  exact next K inv2
/-- the law's call 8: sit -/
theorem lw_c8 {L : Nat} {xs : Nat → Int32} {d i : Nat} {I : mm_I} {Q : Option Value → mm_I → Prop} (hL : L ≤ 3072) (hi : i + 6 ≤ L) (inv : Inv I) (next : ∀ K, Inv K → mm_Ev mm_T0 (L, xs) (d + 61) 0 1398 [.ref 1000, .ref 0, .ref 91, .int (nI i)] [] K Q) : mm_Ev mm_T0 (L, xs) (d + 61) 0 482 [.ref 1000, .ref 0, .ref 91, .int (nI i)] [] I Q := by
  refine ev_ald1 k0_482 ?_
  refine ev_ald0 k0_483 ?_
  refine ev_ild3 k0_484 ?_
  refine ev_iconst k0_485 ?_
  refine ev_iadd k0_486 ?_
  rw [show nI i + (1 : Int32) = nI (i + 1) from nI_add i 1]
  refine ev_ialoadX k0_487 (vp_in_nI (show i + 1 < L by omega) (by omega)) ?_
  rw [nI_clamp (show i + 1 < 2 ^ 31 by omega)]
  refine ev_ald0 k0_488 ?_
  refine ev_ild3 k0_489 ?_
  refine ev_iconst k0_490 ?_
  refine ev_iadd k0_491 ?_
  rw [show nI i + (2 : Int32) = nI (i + 2) from nI_add i 2]
  refine ev_ialoadX k0_492 (vp_in_nI (show i + 2 < L by omega) (by omega)) ?_
  rw [nI_clamp (show i + 2 < 2 ^ 31 by omega)]
  refine ev_cV3i k0_493 cs_18 rfl (by omega) (Nat.le_of_ble_eq_true rfl) rfl rfl rfl ?_
  refine op_sit inv (fun v J h => ?_)
  refine ev_ald2 k0_496 ?_
  refine ev_ald0 k0_497 ?_
  refine ev_ild3 k0_498 ?_
  refine ev_iconst k0_499 ?_
  refine ev_iadd k0_500 ?_
  rw [show nI i + (1 : Int32) = nI (i + 1) from nI_add i 1]
  refine ev_ialoadX k0_501 (vp_in_nI (show i + 1 < L by omega) (by omega)) ?_
  rw [nI_clamp (show i + 1 < 2 ^ 31 by omega)]
  refine ev_ald0 k0_502 ?_
  refine ev_ild3 k0_503 ?_
  refine ev_iconst k0_504 ?_
  refine ev_iadd k0_505 ?_
  rw [show nI i + (2 : Int32) = nI (i + 2) from nI_add i 2]
  refine ev_ialoadX k0_506 (vp_in_nI (show i + 2 < L by omega) (by omega)) ?_
  rw [nI_clamp (show i + 2 < 2 ^ 31 by omega)]
  refine ev_cV3i k0_507 cs_19 rfl (by omega) (Nat.le_of_ble_eq_true rfl) rfl rfl rfl ?_
  refine ev_mono h (fun w K hw => ?_)
  obtain ⟨rfl, inv2⟩ := hw
  refine ev_icmp_eq k0_510 (fun _ => ?_) (fun hh => absurd rfl hh)
  exact next K inv2
/-- the law's call 9: feed -/
theorem lw_c9 {L : Nat} {xs : Nat → Int32} {d i : Nat} {I : mm_I} {Q : Option Value → mm_I → Prop} (hL : L ≤ 3072) (hi : i + 6 ≤ L) (inv : Inv I) (next : ∀ K, Inv K → mm_Ev mm_T0 (L, xs) (d + 61) 0 1398 [.ref 1000, .ref 0, .ref 91, .int (nI i)] [] K Q) : mm_Ev mm_T0 (L, xs) (d + 61) 0 515 [.ref 1000, .ref 0, .ref 91, .int (nI i)] [] I Q := by
  refine ev_ald1 k0_515 ?_
  refine ev_ald0 k0_516 ?_
  refine ev_ild3 k0_517 ?_
  refine ev_iconst k0_518 ?_
  refine ev_iadd k0_519 ?_
  rw [show nI i + (1 : Int32) = nI (i + 1) from nI_add i 1]
  refine ev_ialoadX k0_520 (vp_in_nI (show i + 1 < L by omega) (by omega)) ?_
  rw [nI_clamp (show i + 1 < 2 ^ 31 by omega)]
  refine ev_i2l k0_521 ?_
  refine ev_bipush k0_522 ?_
  refine ev_lshl k0_524 ?_
  refine ev_ald0 k0_525 ?_
  refine ev_ild3 k0_526 ?_
  refine ev_iconst k0_527 ?_
  refine ev_iadd k0_528 ?_
  rw [show nI i + (2 : Int32) = nI (i + 2) from nI_add i 2]
  refine ev_ialoadX k0_529 (vp_in_nI (show i + 2 < L by omega) (by omega)) ?_
  rw [nI_clamp (show i + 2 < 2 ^ 31 by omega)]
  refine ev_i2l k0_530 ?_
  refine ev_ldc2_w k0_531 ?_
  refine ev_land k0_534 ?_
  refine ev_lor k0_535 ?_
  refine ev_ald0 k0_536 ?_
  refine ev_ild3 k0_537 ?_
  refine ev_iconst k0_538 ?_
  refine ev_iadd k0_539 ?_
  rw [show nI i + (3 : Int32) = nI (i + 3) from nI_add i 3]
  refine ev_ialoadX k0_540 (vp_in_nI (show i + 3 < L by omega) (by omega)) ?_
  rw [nI_clamp (show i + 3 < 2 ^ 31 by omega)]
  refine ev_cV3i k0_541 cs_20 rfl (by omega) (Nat.le_of_ble_eq_true rfl) rfl rfl rfl ?_
  refine op_feed inv (fun v J h => ?_)
  refine ev_ald2 k0_544 ?_
  refine ev_ald0 k0_545 ?_
  refine ev_ild3 k0_546 ?_
  refine ev_iconst k0_547 ?_
  refine ev_iadd k0_548 ?_
  rw [show nI i + (1 : Int32) = nI (i + 1) from nI_add i 1]
  refine ev_ialoadX k0_549 (vp_in_nI (show i + 1 < L by omega) (by omega)) ?_
  rw [nI_clamp (show i + 1 < 2 ^ 31 by omega)]
  refine ev_i2l k0_550 ?_
  refine ev_bipush k0_551 ?_
  refine ev_lshl k0_553 ?_
  refine ev_ald0 k0_554 ?_
  refine ev_ild3 k0_555 ?_
  refine ev_iconst k0_556 ?_
  refine ev_iadd k0_557 ?_
  rw [show nI i + (2 : Int32) = nI (i + 2) from nI_add i 2]
  refine ev_ialoadX k0_558 (vp_in_nI (show i + 2 < L by omega) (by omega)) ?_
  rw [nI_clamp (show i + 2 < 2 ^ 31 by omega)]
  refine ev_i2l k0_559 ?_
  refine ev_ldc2_w k0_560 ?_
  refine ev_land k0_563 ?_
  refine ev_lor k0_564 ?_
  refine ev_ald0 k0_565 ?_
  refine ev_ild3 k0_566 ?_
  refine ev_iconst k0_567 ?_
  refine ev_iadd k0_568 ?_
  rw [show nI i + (3 : Int32) = nI (i + 3) from nI_add i 3]
  refine ev_ialoadX k0_569 (vp_in_nI (show i + 3 < L by omega) (by omega)) ?_
  rw [nI_clamp (show i + 3 < 2 ^ 31 by omega)]
  refine ev_cV3i k0_570 cs_21 rfl (by omega) (Nat.le_of_ble_eq_true rfl) rfl rfl rfl ?_
  refine ev_mono h (fun w K hw => ?_)
  obtain ⟨rfl, inv2⟩ := hw
  refine ev_icmp_eq k0_573 (fun _ => ?_) (fun hh => absurd rfl hh)
  exact next K inv2
/-- the law's call 10: text -/
theorem lw_c10 {L : Nat} {xs : Nat → Int32} {d i : Nat} {I : mm_I} {Q : Option Value → mm_I → Prop} (hL : L ≤ 3072) (hi : i + 6 ≤ L) (inv : Inv I) (next : ∀ K, Inv K → mm_Ev mm_T0 (L, xs) (d + 61) 0 1398 [.ref 1000, .ref 0, .ref 91, .int (nI i)] [] K Q) : mm_Ev mm_T0 (L, xs) (d + 61) 0 578 [.ref 1000, .ref 0, .ref 91, .int (nI i)] [] I Q := by
  refine ev_ald1 k0_578 ?_
  refine ev_ald0 k0_579 ?_
  refine ev_ild3 k0_580 ?_
  refine ev_iconst k0_581 ?_
  refine ev_iadd k0_582 ?_
  rw [show nI i + (1 : Int32) = nI (i + 1) from nI_add i 1]
  refine ev_ialoadX k0_583 (vp_in_nI (show i + 1 < L by omega) (by omega)) ?_
  rw [nI_clamp (show i + 1 < 2 ^ 31 by omega)]
  refine ev_cV2i k0_584 cs_22 rfl (by omega) (Nat.le_of_ble_eq_true rfl) rfl rfl rfl ?_
  refine op_text inv (fun v J h => ?_)
  refine ev_ald2 k0_587 ?_
  refine ev_ald0 k0_588 ?_
  refine ev_ild3 k0_589 ?_
  refine ev_iconst k0_590 ?_
  refine ev_iadd k0_591 ?_
  rw [show nI i + (1 : Int32) = nI (i + 1) from nI_add i 1]
  refine ev_ialoadX k0_592 (vp_in_nI (show i + 1 < L by omega) (by omega)) ?_
  rw [nI_clamp (show i + 1 < 2 ^ 31 by omega)]
  refine ev_cV2i k0_593 cs_23 rfl (by omega) (Nat.le_of_ble_eq_true rfl) rfl rfl rfl ?_
  refine ev_mono h (fun w K hw => ?_)
  obtain ⟨rfl, inv2⟩ := hw
  refine ev_icmp_eq k0_596 (fun _ => ?_) (fun hh => absurd rfl hh)
  exact next K inv2
/-- the law's call 11: law -/
theorem lw_c11 {L : Nat} {xs : Nat → Int32} {d i : Nat} {I : mm_I} {Q : Option Value → mm_I → Prop} (hL : L ≤ 3072) (hi : i + 6 ≤ L) (inv : Inv I) (next : ∀ K, Inv K → mm_Ev mm_T0 (L, xs) (d + 61) 0 1398 [.ref 1000, .ref 0, .ref 91, .int (nI i)] [] K Q) : mm_Ev mm_T0 (L, xs) (d + 61) 0 601 [.ref 1000, .ref 0, .ref 91, .int (nI i)] [] I Q := by
  refine ev_ald1 k0_601 ?_
  refine ev_ald0 k0_602 ?_
  refine ev_ild3 k0_603 ?_
  refine ev_iconst k0_604 ?_
  refine ev_iadd k0_605 ?_
  rw [show nI i + (1 : Int32) = nI (i + 1) from nI_add i 1]
  refine ev_ialoadX k0_606 (vp_in_nI (show i + 1 < L by omega) (by omega)) ?_
  rw [nI_clamp (show i + 1 < 2 ^ 31 by omega)]
  refine ev_ald0 k0_607 ?_
  refine ev_ild3 k0_608 ?_
  refine ev_iconst k0_609 ?_
  refine ev_iadd k0_610 ?_
  rw [show nI i + (2 : Int32) = nI (i + 2) from nI_add i 2]
  refine ev_ialoadX k0_611 (vp_in_nI (show i + 2 < L by omega) (by omega)) ?_
  rw [nI_clamp (show i + 2 < 2 ^ 31 by omega)]
  refine ev_ald0 k0_612 ?_
  refine ev_ild3 k0_613 ?_
  refine ev_iconst k0_614 ?_
  refine ev_iadd k0_615 ?_
  rw [show nI i + (3 : Int32) = nI (i + 3) from nI_add i 3]
  refine ev_ialoadX k0_616 (vp_in_nI (show i + 3 < L by omega) (by omega)) ?_
  rw [nI_clamp (show i + 3 < 2 ^ 31 by omega)]
  refine ev_ald0 k0_617 ?_
  refine ev_ild3 k0_618 ?_
  refine ev_iconst k0_619 ?_
  refine ev_iadd k0_620 ?_
  rw [show nI i + (4 : Int32) = nI (i + 4) from nI_add i 4]
  refine ev_ialoadX k0_621 (vp_in_nI (show i + 4 < L by omega) (by omega)) ?_
  rw [nI_clamp (show i + 4 < 2 ^ 31 by omega)]
  refine ev_cV5i k0_622 cs_24 rfl (by omega) (Nat.le_of_ble_eq_true rfl) rfl rfl rfl ?_
  refine op_law inv (fun v J h => ?_)
  refine ev_ald2 k0_625 ?_
  refine ev_ald0 k0_626 ?_
  refine ev_ild3 k0_627 ?_
  refine ev_iconst k0_628 ?_
  refine ev_iadd k0_629 ?_
  rw [show nI i + (1 : Int32) = nI (i + 1) from nI_add i 1]
  refine ev_ialoadX k0_630 (vp_in_nI (show i + 1 < L by omega) (by omega)) ?_
  rw [nI_clamp (show i + 1 < 2 ^ 31 by omega)]
  refine ev_ald0 k0_631 ?_
  refine ev_ild3 k0_632 ?_
  refine ev_iconst k0_633 ?_
  refine ev_iadd k0_634 ?_
  rw [show nI i + (2 : Int32) = nI (i + 2) from nI_add i 2]
  refine ev_ialoadX k0_635 (vp_in_nI (show i + 2 < L by omega) (by omega)) ?_
  rw [nI_clamp (show i + 2 < 2 ^ 31 by omega)]
  refine ev_ald0 k0_636 ?_
  refine ev_ild3 k0_637 ?_
  refine ev_iconst k0_638 ?_
  refine ev_iadd k0_639 ?_
  rw [show nI i + (3 : Int32) = nI (i + 3) from nI_add i 3]
  refine ev_ialoadX k0_640 (vp_in_nI (show i + 3 < L by omega) (by omega)) ?_
  rw [nI_clamp (show i + 3 < 2 ^ 31 by omega)]
  refine ev_ald0 k0_641 ?_
  refine ev_ild3 k0_642 ?_
  refine ev_iconst k0_643 ?_
  refine ev_iadd k0_644 ?_
  rw [show nI i + (4 : Int32) = nI (i + 4) from nI_add i 4]
  refine ev_ialoadX k0_645 (vp_in_nI (show i + 4 < L by omega) (by omega)) ?_
  rw [nI_clamp (show i + 4 < 2 ^ 31 by omega)]
  refine ev_cV5i k0_646 cs_25 rfl (by omega) (Nat.le_of_ble_eq_true rfl) rfl rfl rfl ?_
  refine ev_mono h (fun w K hw => ?_)
  obtain ⟨rfl, inv2⟩ := hw
  refine ev_icmp_eq k0_649 (fun _ => ?_) (fun hh => absurd rfl hh)
  exact next K inv2
/-- the law's call 12: vote -/
theorem lw_c12 {L : Nat} {xs : Nat → Int32} {d i : Nat} {I : mm_I} {Q : Option Value → mm_I → Prop} (hL : L ≤ 3072) (hi : i + 6 ≤ L) (inv : Inv I) (next : ∀ K, Inv K → mm_Ev mm_T0 (L, xs) (d + 61) 0 1398 [.ref 1000, .ref 0, .ref 91, .int (nI i)] [] K Q) : mm_Ev mm_T0 (L, xs) (d + 61) 0 654 [.ref 1000, .ref 0, .ref 91, .int (nI i)] [] I Q := by
  refine ev_ald1 k0_654 ?_
  refine ev_ald0 k0_655 ?_
  refine ev_ild3 k0_656 ?_
  refine ev_iconst k0_657 ?_
  refine ev_iadd k0_658 ?_
  rw [show nI i + (1 : Int32) = nI (i + 1) from nI_add i 1]
  refine ev_ialoadX k0_659 (vp_in_nI (show i + 1 < L by omega) (by omega)) ?_
  rw [nI_clamp (show i + 1 < 2 ^ 31 by omega)]
  refine ev_ald0 k0_660 ?_
  refine ev_ild3 k0_661 ?_
  refine ev_iconst k0_662 ?_
  refine ev_iadd k0_663 ?_
  rw [show nI i + (2 : Int32) = nI (i + 2) from nI_add i 2]
  refine ev_ialoadX k0_664 (vp_in_nI (show i + 2 < L by omega) (by omega)) ?_
  rw [nI_clamp (show i + 2 < 2 ^ 31 by omega)]
  refine ev_cV3i k0_665 cs_26 rfl (by omega) (Nat.le_of_ble_eq_true rfl) rfl rfl rfl ?_
  refine op_vote inv (fun v J h => ?_)
  refine ev_ald2 k0_668 ?_
  refine ev_ald0 k0_669 ?_
  refine ev_ild3 k0_670 ?_
  refine ev_iconst k0_671 ?_
  refine ev_iadd k0_672 ?_
  rw [show nI i + (1 : Int32) = nI (i + 1) from nI_add i 1]
  refine ev_ialoadX k0_673 (vp_in_nI (show i + 1 < L by omega) (by omega)) ?_
  rw [nI_clamp (show i + 1 < 2 ^ 31 by omega)]
  refine ev_ald0 k0_674 ?_
  refine ev_ild3 k0_675 ?_
  refine ev_iconst k0_676 ?_
  refine ev_iadd k0_677 ?_
  rw [show nI i + (2 : Int32) = nI (i + 2) from nI_add i 2]
  refine ev_ialoadX k0_678 (vp_in_nI (show i + 2 < L by omega) (by omega)) ?_
  rw [nI_clamp (show i + 2 < 2 ^ 31 by omega)]
  refine ev_cV3i k0_679 cs_27 rfl (by omega) (Nat.le_of_ble_eq_true rfl) rfl rfl rfl ?_
  refine ev_mono h (fun w K hw => ?_)
  obtain ⟨rfl, inv2⟩ := hw
  refine ev_icmp_eq k0_682 (fun _ => ?_) (fun hh => absurd rfl hh)
  exact next K inv2
/-- the law's call 13: says -/
theorem lw_c13 {L : Nat} {xs : Nat → Int32} {d i : Nat} {I : mm_I} {Q : Option Value → mm_I → Prop} (hL : L ≤ 3072) (hi : i + 6 ≤ L) (inv : Inv I) (next : ∀ K, Inv K → mm_Ev mm_T0 (L, xs) (d + 61) 0 1398 [.ref 1000, .ref 0, .ref 91, .int (nI i)] [] K Q) : mm_Ev mm_T0 (L, xs) (d + 61) 0 687 [.ref 1000, .ref 0, .ref 91, .int (nI i)] [] I Q := by
  refine ev_ald1 k0_687 ?_
  refine ev_ald0 k0_688 ?_
  refine ev_ild3 k0_689 ?_
  refine ev_iconst k0_690 ?_
  refine ev_iadd k0_691 ?_
  rw [show nI i + (1 : Int32) = nI (i + 1) from nI_add i 1]
  refine ev_ialoadX k0_692 (vp_in_nI (show i + 1 < L by omega) (by omega)) ?_
  rw [nI_clamp (show i + 1 < 2 ^ 31 by omega)]
  refine ev_ald0 k0_693 ?_
  refine ev_ild3 k0_694 ?_
  refine ev_iconst k0_695 ?_
  refine ev_iadd k0_696 ?_
  rw [show nI i + (2 : Int32) = nI (i + 2) from nI_add i 2]
  refine ev_ialoadX k0_697 (vp_in_nI (show i + 2 < L by omega) (by omega)) ?_
  rw [nI_clamp (show i + 2 < 2 ^ 31 by omega)]
  refine ev_cV3i k0_698 cs_28 rfl (by omega) (Nat.le_of_ble_eq_true rfl) rfl rfl rfl ?_
  refine op_says inv (fun v J h => ?_)
  refine ev_ald2 k0_701 ?_
  refine ev_ald0 k0_702 ?_
  refine ev_ild3 k0_703 ?_
  refine ev_iconst k0_704 ?_
  refine ev_iadd k0_705 ?_
  rw [show nI i + (1 : Int32) = nI (i + 1) from nI_add i 1]
  refine ev_ialoadX k0_706 (vp_in_nI (show i + 1 < L by omega) (by omega)) ?_
  rw [nI_clamp (show i + 1 < 2 ^ 31 by omega)]
  refine ev_ald0 k0_707 ?_
  refine ev_ild3 k0_708 ?_
  refine ev_iconst k0_709 ?_
  refine ev_iadd k0_710 ?_
  rw [show nI i + (2 : Int32) = nI (i + 2) from nI_add i 2]
  refine ev_ialoadX k0_711 (vp_in_nI (show i + 2 < L by omega) (by omega)) ?_
  rw [nI_clamp (show i + 2 < 2 ^ 31 by omega)]
  refine ev_cV3i k0_712 cs_29 rfl (by omega) (Nat.le_of_ble_eq_true rfl) rfl rfl rfl ?_
  refine ev_mono h (fun w K hw => ?_)
  obtain ⟨rfl, inv2⟩ := hw
  refine ev_icmp_eq k0_715 (fun _ => ?_) (fun hh => absurd rfl hh)
  exact next K inv2
/-- the law's call 14: run -/
theorem lw_c14 {L : Nat} {xs : Nat → Int32} {d i : Nat} {I : mm_I} {Q : Option Value → mm_I → Prop} (hL : L ≤ 3072) (hi : i + 6 ≤ L) (inv : Inv I) (next : ∀ K, Inv K → mm_Ev mm_T0 (L, xs) (d + 61) 0 1398 [.ref 1000, .ref 0, .ref 91, .int (nI i)] [] K Q) : mm_Ev mm_T0 (L, xs) (d + 61) 0 720 [.ref 1000, .ref 0, .ref 91, .int (nI i)] [] I Q := by
  refine ev_ald1 k0_720 ?_
  refine ev_cV1i k0_721 cs_30 rfl (by omega) (Nat.le_of_ble_eq_true rfl) rfl rfl rfl ?_
  refine op_run inv (fun v J h => ?_)
  refine ev_ald2 k0_724 ?_
  refine ev_cV1i k0_725 cs_31 rfl (by omega) (Nat.le_of_ble_eq_true rfl) rfl rfl rfl ?_
  refine ev_mono h (fun w K hw => ?_)
  obtain ⟨rfl, inv2⟩ := hw
  refine ev_icmp_eq k0_728 (fun _ => ?_) (fun hh => absurd rfl hh)
  exact next K inv2
/-- the law's call 15: sittings -/
theorem lw_c15 {L : Nat} {xs : Nat → Int32} {d i : Nat} {I : mm_I} {Q : Option Value → mm_I → Prop} (hL : L ≤ 3072) (hi : i + 6 ≤ L) (inv : Inv I) (next : ∀ K, Inv K → mm_Ev mm_T0 (L, xs) (d + 61) 0 1398 [.ref 1000, .ref 0, .ref 91, .int (nI i)] [] K Q) : mm_Ev mm_T0 (L, xs) (d + 61) 0 733 [.ref 1000, .ref 0, .ref 91, .int (nI i)] [] I Q := by
  refine ev_ald1 k0_733 ?_
  refine ev_ald0 k0_734 ?_
  refine ev_ild3 k0_735 ?_
  refine ev_iconst k0_736 ?_
  refine ev_iadd k0_737 ?_
  rw [show nI i + (1 : Int32) = nI (i + 1) from nI_add i 1]
  refine ev_ialoadX k0_738 (vp_in_nI (show i + 1 < L by omega) (by omega)) ?_
  rw [nI_clamp (show i + 1 < 2 ^ 31 by omega)]
  refine ev_cV2i k0_739 cs_32 rfl (by omega) (Nat.le_of_ble_eq_true rfl) rfl rfl rfl ?_
  refine op_sittings inv (fun v J h => ?_)
  refine ev_ald2 k0_742 ?_
  refine ev_ald0 k0_743 ?_
  refine ev_ild3 k0_744 ?_
  refine ev_iconst k0_745 ?_
  refine ev_iadd k0_746 ?_
  rw [show nI i + (1 : Int32) = nI (i + 1) from nI_add i 1]
  refine ev_ialoadX k0_747 (vp_in_nI (show i + 1 < L by omega) (by omega)) ?_
  rw [nI_clamp (show i + 1 < 2 ^ 31 by omega)]
  refine ev_cV2i k0_748 cs_33 rfl (by omega) (Nat.le_of_ble_eq_true rfl) rfl rfl rfl ?_
  refine ev_mono h (fun w K hw => ?_)
  obtain ⟨rfl, inv2⟩ := hw
  refine ev_icmp_eq k0_751 (fun _ => ?_) (fun hh => absurd rfl hh)
  exact next K inv2
/-- the law's call 16: loose -/
theorem lw_c16 {L : Nat} {xs : Nat → Int32} {d i : Nat} {I : mm_I} {Q : Option Value → mm_I → Prop} (hL : L ≤ 3072) (hi : i + 6 ≤ L) (inv : Inv I) (next : ∀ K, Inv K → mm_Ev mm_T0 (L, xs) (d + 61) 0 1398 [.ref 1000, .ref 0, .ref 91, .int (nI i)] [] K Q) : mm_Ev mm_T0 (L, xs) (d + 61) 0 756 [.ref 1000, .ref 0, .ref 91, .int (nI i)] [] I Q := by
  refine ev_ald1 k0_756 ?_
  refine ev_ald0 k0_757 ?_
  refine ev_ild3 k0_758 ?_
  refine ev_iconst k0_759 ?_
  refine ev_iadd k0_760 ?_
  rw [show nI i + (1 : Int32) = nI (i + 1) from nI_add i 1]
  refine ev_ialoadX k0_761 (vp_in_nI (show i + 1 < L by omega) (by omega)) ?_
  rw [nI_clamp (show i + 1 < 2 ^ 31 by omega)]
  refine ev_cV2i k0_762 cs_34 rfl (by omega) (Nat.le_of_ble_eq_true rfl) rfl rfl rfl ?_
  refine op_loose inv (fun v J h => ?_)
  refine ev_ald2 k0_765 ?_
  refine ev_ald0 k0_766 ?_
  refine ev_ild3 k0_767 ?_
  refine ev_iconst k0_768 ?_
  refine ev_iadd k0_769 ?_
  rw [show nI i + (1 : Int32) = nI (i + 1) from nI_add i 1]
  refine ev_ialoadX k0_770 (vp_in_nI (show i + 1 < L by omega) (by omega)) ?_
  rw [nI_clamp (show i + 1 < 2 ^ 31 by omega)]
  refine ev_cV2i k0_771 cs_35 rfl (by omega) (Nat.le_of_ble_eq_true rfl) rfl rfl rfl ?_
  refine ev_mono h (fun w K hw => ?_)
  obtain ⟨rfl, inv2⟩ := hw
  refine ev_icmp_eq k0_774 (fun _ => ?_) (fun hh => absurd rfl hh)
  exact next K inv2
/-- the law's call 17: then -/
theorem lw_c17 {L : Nat} {xs : Nat → Int32} {d i : Nat} {I : mm_I} {Q : Option Value → mm_I → Prop} (hL : L ≤ 3072) (hi : i + 6 ≤ L) (inv : Inv I) (next : ∀ K, Inv K → mm_Ev mm_T0 (L, xs) (d + 61) 0 1398 [.ref 1000, .ref 0, .ref 91, .int (nI i)] [] K Q) : mm_Ev mm_T0 (L, xs) (d + 61) 0 779 [.ref 1000, .ref 0, .ref 91, .int (nI i)] [] I Q := by
  refine ev_ald1 k0_779 ?_
  refine ev_ald0 k0_780 ?_
  refine ev_ild3 k0_781 ?_
  refine ev_iconst k0_782 ?_
  refine ev_iadd k0_783 ?_
  rw [show nI i + (1 : Int32) = nI (i + 1) from nI_add i 1]
  refine ev_ialoadX k0_784 (vp_in_nI (show i + 1 < L by omega) (by omega)) ?_
  rw [nI_clamp (show i + 1 < 2 ^ 31 by omega)]
  refine ev_ald0 k0_785 ?_
  refine ev_ild3 k0_786 ?_
  refine ev_iconst k0_787 ?_
  refine ev_iadd k0_788 ?_
  rw [show nI i + (2 : Int32) = nI (i + 2) from nI_add i 2]
  refine ev_ialoadX k0_789 (vp_in_nI (show i + 2 < L by omega) (by omega)) ?_
  rw [nI_clamp (show i + 2 < 2 ^ 31 by omega)]
  refine ev_cV3i k0_790 cs_36 rfl (by omega) (Nat.le_of_ble_eq_true rfl) rfl rfl rfl ?_
  refine op_then inv (fun v J h => ?_)
  refine ev_ald2 k0_793 ?_
  refine ev_ald0 k0_794 ?_
  refine ev_ild3 k0_795 ?_
  refine ev_iconst k0_796 ?_
  refine ev_iadd k0_797 ?_
  rw [show nI i + (1 : Int32) = nI (i + 1) from nI_add i 1]
  refine ev_ialoadX k0_798 (vp_in_nI (show i + 1 < L by omega) (by omega)) ?_
  rw [nI_clamp (show i + 1 < 2 ^ 31 by omega)]
  refine ev_ald0 k0_799 ?_
  refine ev_ild3 k0_800 ?_
  refine ev_iconst k0_801 ?_
  refine ev_iadd k0_802 ?_
  rw [show nI i + (2 : Int32) = nI (i + 2) from nI_add i 2]
  refine ev_ialoadX k0_803 (vp_in_nI (show i + 2 < L by omega) (by omega)) ?_
  rw [nI_clamp (show i + 2 < 2 ^ 31 by omega)]
  refine ev_cV3i k0_804 cs_37 rfl (by omega) (Nat.le_of_ble_eq_true rfl) rfl rfl rfl ?_
  refine ev_mono h (fun w K hw => ?_)
  obtain ⟨rfl, inv2⟩ := hw
  refine ev_icmp_eq k0_807 (fun _ => ?_) (fun hh => absurd rfl hh)
  exact next K inv2
/-- the law's call 18: when -/
theorem lw_c18 {L : Nat} {xs : Nat → Int32} {d i : Nat} {I : mm_I} {Q : Option Value → mm_I → Prop} (hL : L ≤ 3072) (hi : i + 6 ≤ L) (inv : Inv I) (next : ∀ K, Inv K → mm_Ev mm_T0 (L, xs) (d + 61) 0 1398 [.ref 1000, .ref 0, .ref 91, .int (nI i)] [] K Q) : mm_Ev mm_T0 (L, xs) (d + 61) 0 812 [.ref 1000, .ref 0, .ref 91, .int (nI i)] [] I Q := by
  refine ev_ald1 k0_812 ?_
  refine ev_ald0 k0_813 ?_
  refine ev_ild3 k0_814 ?_
  refine ev_iconst k0_815 ?_
  refine ev_iadd k0_816 ?_
  rw [show nI i + (1 : Int32) = nI (i + 1) from nI_add i 1]
  refine ev_ialoadX k0_817 (vp_in_nI (show i + 1 < L by omega) (by omega)) ?_
  rw [nI_clamp (show i + 1 < 2 ^ 31 by omega)]
  refine ev_cV2i k0_818 cs_38 rfl (by omega) (Nat.le_of_ble_eq_true rfl) rfl rfl rfl ?_
  refine op_when inv (fun v J h => ?_)
  refine ev_ald2 k0_821 ?_
  refine ev_ald0 k0_822 ?_
  refine ev_ild3 k0_823 ?_
  refine ev_iconst k0_824 ?_
  refine ev_iadd k0_825 ?_
  rw [show nI i + (1 : Int32) = nI (i + 1) from nI_add i 1]
  refine ev_ialoadX k0_826 (vp_in_nI (show i + 1 < L by omega) (by omega)) ?_
  rw [nI_clamp (show i + 1 < 2 ^ 31 by omega)]
  refine ev_cV2i k0_827 cs_39 rfl (by omega) (Nat.le_of_ble_eq_true rfl) rfl rfl rfl ?_
  refine ev_mono h (fun w K hw => ?_)
  obtain ⟨rfl, inv2⟩ := hw
  refine ev_icmp_eq k0_830 (fun _ => ?_) (fun hh => absurd rfl hh)
  exact next K inv2
/-- the law's call 19: turning -/
theorem lw_c19 {L : Nat} {xs : Nat → Int32} {d i : Nat} {I : mm_I} {Q : Option Value → mm_I → Prop} (hL : L ≤ 3072) (hi : i + 6 ≤ L) (inv : Inv I) (next : ∀ K, Inv K → mm_Ev mm_T0 (L, xs) (d + 61) 0 1398 [.ref 1000, .ref 0, .ref 91, .int (nI i)] [] K Q) : mm_Ev mm_T0 (L, xs) (d + 61) 0 835 [.ref 1000, .ref 0, .ref 91, .int (nI i)] [] I Q := by
  refine ev_ald1 k0_835 ?_
  refine ev_ald0 k0_836 ?_
  refine ev_ild3 k0_837 ?_
  refine ev_iconst k0_838 ?_
  refine ev_iadd k0_839 ?_
  rw [show nI i + (1 : Int32) = nI (i + 1) from nI_add i 1]
  refine ev_ialoadX k0_840 (vp_in_nI (show i + 1 < L by omega) (by omega)) ?_
  rw [nI_clamp (show i + 1 < 2 ^ 31 by omega)]
  refine ev_cV2i k0_841 cs_40 rfl (by omega) (Nat.le_of_ble_eq_true rfl) rfl rfl rfl ?_
  refine op_turning inv (fun v J h => ?_)
  refine ev_ald2 k0_844 ?_
  refine ev_ald0 k0_845 ?_
  refine ev_ild3 k0_846 ?_
  refine ev_iconst k0_847 ?_
  refine ev_iadd k0_848 ?_
  rw [show nI i + (1 : Int32) = nI (i + 1) from nI_add i 1]
  refine ev_ialoadX k0_849 (vp_in_nI (show i + 1 < L by omega) (by omega)) ?_
  rw [nI_clamp (show i + 1 < 2 ^ 31 by omega)]
  refine ev_cV2i k0_850 cs_41 rfl (by omega) (Nat.le_of_ble_eq_true rfl) rfl rfl rfl ?_
  refine ev_mono h (fun w K hw => ?_)
  obtain ⟨rfl, inv2⟩ := hw
  refine ev_icmp_eq k0_853 (fun _ => ?_) (fun hh => absurd rfl hh)
  exact next K inv2
/-- the law's call 20: moves -/
theorem lw_c20 {L : Nat} {xs : Nat → Int32} {d i : Nat} {I : mm_I} {Q : Option Value → mm_I → Prop} (hL : L ≤ 3072) (hi : i + 6 ≤ L) (inv : Inv I) (next : ∀ K, Inv K → mm_Ev mm_T0 (L, xs) (d + 61) 0 1398 [.ref 1000, .ref 0, .ref 91, .int (nI i)] [] K Q) : mm_Ev mm_T0 (L, xs) (d + 61) 0 858 [.ref 1000, .ref 0, .ref 91, .int (nI i)] [] I Q := by
  refine ev_ald1 k0_858 ?_
  refine ev_ald0 k0_859 ?_
  refine ev_ild3 k0_860 ?_
  refine ev_iconst k0_861 ?_
  refine ev_iadd k0_862 ?_
  rw [show nI i + (1 : Int32) = nI (i + 1) from nI_add i 1]
  refine ev_ialoadX k0_863 (vp_in_nI (show i + 1 < L by omega) (by omega)) ?_
  rw [nI_clamp (show i + 1 < 2 ^ 31 by omega)]
  refine ev_cV2i k0_864 cs_42 rfl (by omega) (Nat.le_of_ble_eq_true rfl) rfl rfl rfl ?_
  refine op_moves inv (fun v J h => ?_)
  refine ev_ald2 k0_867 ?_
  refine ev_ald0 k0_868 ?_
  refine ev_ild3 k0_869 ?_
  refine ev_iconst k0_870 ?_
  refine ev_iadd k0_871 ?_
  rw [show nI i + (1 : Int32) = nI (i + 1) from nI_add i 1]
  refine ev_ialoadX k0_872 (vp_in_nI (show i + 1 < L by omega) (by omega)) ?_
  rw [nI_clamp (show i + 1 < 2 ^ 31 by omega)]
  refine ev_cV2i k0_873 cs_43 rfl (by omega) (Nat.le_of_ble_eq_true rfl) rfl rfl rfl ?_
  refine ev_mono h (fun w K hw => ?_)
  obtain ⟨rfl, inv2⟩ := hw
  refine ev_icmp_eq k0_876 (fun _ => ?_) (fun hh => absurd rfl hh)
  exact next K inv2
/-- the law's call 21: power -/
theorem lw_c21 {L : Nat} {xs : Nat → Int32} {d i : Nat} {I : mm_I} {Q : Option Value → mm_I → Prop} (hL : L ≤ 3072) (hi : i + 6 ≤ L) (inv : Inv I) (next : ∀ K, Inv K → mm_Ev mm_T0 (L, xs) (d + 61) 0 1398 [.ref 1000, .ref 0, .ref 91, .int (nI i)] [] K Q) : mm_Ev mm_T0 (L, xs) (d + 61) 0 881 [.ref 1000, .ref 0, .ref 91, .int (nI i)] [] I Q := by
  refine ev_ald1 k0_881 ?_
  refine ev_ald0 k0_882 ?_
  refine ev_ild3 k0_883 ?_
  refine ev_iconst k0_884 ?_
  refine ev_iadd k0_885 ?_
  rw [show nI i + (1 : Int32) = nI (i + 1) from nI_add i 1]
  refine ev_ialoadX k0_886 (vp_in_nI (show i + 1 < L by omega) (by omega)) ?_
  rw [nI_clamp (show i + 1 < 2 ^ 31 by omega)]
  refine ev_cV2i k0_887 cs_44 rfl (by omega) (Nat.le_of_ble_eq_true rfl) rfl rfl rfl ?_
  refine op_power inv (fun v J h => ?_)
  refine ev_ald2 k0_890 ?_
  refine ev_ald0 k0_891 ?_
  refine ev_ild3 k0_892 ?_
  refine ev_iconst k0_893 ?_
  refine ev_iadd k0_894 ?_
  rw [show nI i + (1 : Int32) = nI (i + 1) from nI_add i 1]
  refine ev_ialoadX k0_895 (vp_in_nI (show i + 1 < L by omega) (by omega)) ?_
  rw [nI_clamp (show i + 1 < 2 ^ 31 by omega)]
  refine ev_cV2i k0_896 cs_45 rfl (by omega) (Nat.le_of_ble_eq_true rfl) rfl rfl rfl ?_
  refine ev_mono h (fun w K hw => ?_)
  obtain ⟨rfl, inv2⟩ := hw
  refine ev_icmp_eq k0_899 (fun _ => ?_) (fun hh => absurd rfl hh)
  exact next K inv2
/-- the law's call 22: fits -/
theorem lw_c22 {L : Nat} {xs : Nat → Int32} {d i : Nat} {I : mm_I} {Q : Option Value → mm_I → Prop} (hL : L ≤ 3072) (hi : i + 6 ≤ L) (inv : Inv I) (next : ∀ K, Inv K → mm_Ev mm_T0 (L, xs) (d + 61) 0 1398 [.ref 1000, .ref 0, .ref 91, .int (nI i)] [] K Q) : mm_Ev mm_T0 (L, xs) (d + 61) 0 904 [.ref 1000, .ref 0, .ref 91, .int (nI i)] [] I Q := by
  refine ev_ald1 k0_904 ?_
  refine ev_ald0 k0_905 ?_
  refine ev_ild3 k0_906 ?_
  refine ev_iconst k0_907 ?_
  refine ev_iadd k0_908 ?_
  rw [show nI i + (1 : Int32) = nI (i + 1) from nI_add i 1]
  refine ev_ialoadX k0_909 (vp_in_nI (show i + 1 < L by omega) (by omega)) ?_
  rw [nI_clamp (show i + 1 < 2 ^ 31 by omega)]
  refine ev_ald0 k0_910 ?_
  refine ev_ild3 k0_911 ?_
  refine ev_iconst k0_912 ?_
  refine ev_iadd k0_913 ?_
  rw [show nI i + (2 : Int32) = nI (i + 2) from nI_add i 2]
  refine ev_ialoadX k0_914 (vp_in_nI (show i + 2 < L by omega) (by omega)) ?_
  rw [nI_clamp (show i + 2 < 2 ^ 31 by omega)]
  refine ev_cV3i k0_915 cs_46 rfl (by omega) (Nat.le_of_ble_eq_true rfl) rfl rfl rfl ?_
  refine op_fits inv (fun v J h => ?_)
  refine ev_ald2 k0_918 ?_
  refine ev_ald0 k0_919 ?_
  refine ev_ild3 k0_920 ?_
  refine ev_iconst k0_921 ?_
  refine ev_iadd k0_922 ?_
  rw [show nI i + (1 : Int32) = nI (i + 1) from nI_add i 1]
  refine ev_ialoadX k0_923 (vp_in_nI (show i + 1 < L by omega) (by omega)) ?_
  rw [nI_clamp (show i + 1 < 2 ^ 31 by omega)]
  refine ev_ald0 k0_924 ?_
  refine ev_ild3 k0_925 ?_
  refine ev_iconst k0_926 ?_
  refine ev_iadd k0_927 ?_
  rw [show nI i + (2 : Int32) = nI (i + 2) from nI_add i 2]
  refine ev_ialoadX k0_928 (vp_in_nI (show i + 2 < L by omega) (by omega)) ?_
  rw [nI_clamp (show i + 2 < 2 ^ 31 by omega)]
  refine ev_cV3i k0_929 cs_47 rfl (by omega) (Nat.le_of_ble_eq_true rfl) rfl rfl rfl ?_
  refine ev_mono h (fun w K hw => ?_)
  obtain ⟨rfl, inv2⟩ := hw
  refine ev_icmp_eq k0_932 (fun _ => ?_) (fun hh => absurd rfl hh)
  exact next K inv2
/-- the law's call 23: parts -/
theorem lw_c23 {L : Nat} {xs : Nat → Int32} {d i : Nat} {I : mm_I} {Q : Option Value → mm_I → Prop} (hL : L ≤ 3072) (hi : i + 6 ≤ L) (inv : Inv I) (next : ∀ K, Inv K → mm_Ev mm_T0 (L, xs) (d + 61) 0 1398 [.ref 1000, .ref 0, .ref 91, .int (nI i)] [] K Q) : mm_Ev mm_T0 (L, xs) (d + 61) 0 937 [.ref 1000, .ref 0, .ref 91, .int (nI i)] [] I Q := by
  refine ev_ald1 k0_937 ?_
  refine ev_ald0 k0_938 ?_
  refine ev_ild3 k0_939 ?_
  refine ev_iconst k0_940 ?_
  refine ev_iadd k0_941 ?_
  rw [show nI i + (1 : Int32) = nI (i + 1) from nI_add i 1]
  refine ev_ialoadX k0_942 (vp_in_nI (show i + 1 < L by omega) (by omega)) ?_
  rw [nI_clamp (show i + 1 < 2 ^ 31 by omega)]
  refine ev_cV2i k0_943 cs_48 rfl (by omega) (Nat.le_of_ble_eq_true rfl) rfl rfl rfl ?_
  refine op_parts inv (fun v J h => ?_)
  refine ev_ald2 k0_946 ?_
  refine ev_ald0 k0_947 ?_
  refine ev_ild3 k0_948 ?_
  refine ev_iconst k0_949 ?_
  refine ev_iadd k0_950 ?_
  rw [show nI i + (1 : Int32) = nI (i + 1) from nI_add i 1]
  refine ev_ialoadX k0_951 (vp_in_nI (show i + 1 < L by omega) (by omega)) ?_
  rw [nI_clamp (show i + 1 < 2 ^ 31 by omega)]
  refine ev_cV2i k0_952 cs_49 rfl (by omega) (Nat.le_of_ble_eq_true rfl) rfl rfl rfl ?_
  refine ev_mono h (fun w K hw => ?_)
  obtain ⟨rfl, inv2⟩ := hw
  refine ev_icmp_eq k0_955 (fun _ => ?_) (fun hh => absurd rfl hh)
  exact next K inv2
/-- the law's call 24: faster -/
theorem lw_c24 {L : Nat} {xs : Nat → Int32} {d i : Nat} {I : mm_I} {Q : Option Value → mm_I → Prop} (hL : L ≤ 3072) (hi : i + 6 ≤ L) (inv : Inv I) (next : ∀ K, Inv K → mm_Ev mm_T0 (L, xs) (d + 61) 0 1398 [.ref 1000, .ref 0, .ref 91, .int (nI i)] [] K Q) : mm_Ev mm_T0 (L, xs) (d + 61) 0 960 [.ref 1000, .ref 0, .ref 91, .int (nI i)] [] I Q := by
  refine ev_ald1 k0_960 ?_
  refine ev_ald0 k0_961 ?_
  refine ev_ild3 k0_962 ?_
  refine ev_iconst k0_963 ?_
  refine ev_iadd k0_964 ?_
  rw [show nI i + (1 : Int32) = nI (i + 1) from nI_add i 1]
  refine ev_ialoadX k0_965 (vp_in_nI (show i + 1 < L by omega) (by omega)) ?_
  rw [nI_clamp (show i + 1 < 2 ^ 31 by omega)]
  refine ev_ald0 k0_966 ?_
  refine ev_ild3 k0_967 ?_
  refine ev_iconst k0_968 ?_
  refine ev_iadd k0_969 ?_
  rw [show nI i + (2 : Int32) = nI (i + 2) from nI_add i 2]
  refine ev_ialoadX k0_970 (vp_in_nI (show i + 2 < L by omega) (by omega)) ?_
  rw [nI_clamp (show i + 2 < 2 ^ 31 by omega)]
  refine ev_cV3i k0_971 cs_50 rfl (by omega) (Nat.le_of_ble_eq_true rfl) rfl rfl rfl ?_
  refine op_faster inv (fun v J h => ?_)
  refine ev_ald2 k0_974 ?_
  refine ev_ald0 k0_975 ?_
  refine ev_ild3 k0_976 ?_
  refine ev_iconst k0_977 ?_
  refine ev_iadd k0_978 ?_
  rw [show nI i + (1 : Int32) = nI (i + 1) from nI_add i 1]
  refine ev_ialoadX k0_979 (vp_in_nI (show i + 1 < L by omega) (by omega)) ?_
  rw [nI_clamp (show i + 1 < 2 ^ 31 by omega)]
  refine ev_ald0 k0_980 ?_
  refine ev_ild3 k0_981 ?_
  refine ev_iconst k0_982 ?_
  refine ev_iadd k0_983 ?_
  rw [show nI i + (2 : Int32) = nI (i + 2) from nI_add i 2]
  refine ev_ialoadX k0_984 (vp_in_nI (show i + 2 < L by omega) (by omega)) ?_
  rw [nI_clamp (show i + 2 < 2 ^ 31 by omega)]
  refine ev_cV3i k0_985 cs_51 rfl (by omega) (Nat.le_of_ble_eq_true rfl) rfl rfl rfl ?_
  refine ev_mono h (fun w K hw => ?_)
  obtain ⟨rfl, inv2⟩ := hw
  refine ev_icmp_eq k0_988 (fun _ => ?_) (fun hh => absurd rfl hh)
  exact next K inv2
/-- the law's call 25: seatless -/
theorem lw_c25 {L : Nat} {xs : Nat → Int32} {d i : Nat} {I : mm_I} {Q : Option Value → mm_I → Prop} (hL : L ≤ 3072) (hi : i + 6 ≤ L) (inv : Inv I) (next : ∀ K, Inv K → mm_Ev mm_T0 (L, xs) (d + 61) 0 1398 [.ref 1000, .ref 0, .ref 91, .int (nI i)] [] K Q) : mm_Ev mm_T0 (L, xs) (d + 61) 0 993 [.ref 1000, .ref 0, .ref 91, .int (nI i)] [] I Q := by
  refine ev_ald1 k0_993 ?_
  refine ev_cV1i k0_994 cs_52 rfl (by omega) (Nat.le_of_ble_eq_true rfl) rfl rfl rfl ?_
  refine op_seatless inv (fun v J h => ?_)
  refine ev_ald2 k0_997 ?_
  refine ev_cV1i k0_998 cs_53 rfl (by omega) (Nat.le_of_ble_eq_true rfl) rfl rfl rfl ?_
  refine ev_mono h (fun w K hw => ?_)
  obtain ⟨rfl, inv2⟩ := hw
  refine ev_icmp_eq k0_1001 (fun _ => ?_) (fun hh => absurd rfl hh)
  exact next K inv2
/-- the law's call 26: seed -/
theorem lw_c26 {L : Nat} {xs : Nat → Int32} {d i : Nat} {I : mm_I} {Q : Option Value → mm_I → Prop} (hL : L ≤ 3072) (hi : i + 6 ≤ L) (inv : Inv I) (next : ∀ K, Inv K → mm_Ev mm_T0 (L, xs) (d + 61) 0 1398 [.ref 1000, .ref 0, .ref 91, .int (nI i)] [] K Q) : mm_Ev mm_T0 (L, xs) (d + 61) 0 1006 [.ref 1000, .ref 0, .ref 91, .int (nI i)] [] I Q := by
  refine ev_ald1 k0_1006 ?_
  refine ev_ald0 k0_1007 ?_
  refine ev_ild3 k0_1008 ?_
  refine ev_iconst k0_1009 ?_
  refine ev_iadd k0_1010 ?_
  rw [show nI i + (1 : Int32) = nI (i + 1) from nI_add i 1]
  refine ev_ialoadX k0_1011 (vp_in_nI (show i + 1 < L by omega) (by omega)) ?_
  rw [nI_clamp (show i + 1 < 2 ^ 31 by omega)]
  refine ev_cV2i k0_1012 cs_54 rfl (by omega) (Nat.le_of_ble_eq_true rfl) rfl rfl rfl ?_
  refine op_seed inv (fun v J h => ?_)
  refine ev_ald2 k0_1015 ?_
  refine ev_ald0 k0_1016 ?_
  refine ev_ild3 k0_1017 ?_
  refine ev_iconst k0_1018 ?_
  refine ev_iadd k0_1019 ?_
  rw [show nI i + (1 : Int32) = nI (i + 1) from nI_add i 1]
  refine ev_ialoadX k0_1020 (vp_in_nI (show i + 1 < L by omega) (by omega)) ?_
  rw [nI_clamp (show i + 1 < 2 ^ 31 by omega)]
  refine ev_cV2i k0_1021 cs_55 rfl (by omega) (Nat.le_of_ble_eq_true rfl) rfl rfl rfl ?_
  refine ev_mono h (fun w K hw => ?_)
  obtain ⟨rfl, inv2⟩ := hw
  refine ev_icmp_eq k0_1024 (fun _ => ?_) (fun hh => absurd rfl hh)
  exact next K inv2
/-- the law's call 27: voice -/
theorem lw_c27 {L : Nat} {xs : Nat → Int32} {d i : Nat} {I : mm_I} {Q : Option Value → mm_I → Prop} (hL : L ≤ 3072) (hi : i + 6 ≤ L) (inv : Inv I) (next : ∀ K, Inv K → mm_Ev mm_T0 (L, xs) (d + 61) 0 1398 [.ref 1000, .ref 0, .ref 91, .int (nI i)] [] K Q) : mm_Ev mm_T0 (L, xs) (d + 61) 0 1029 [.ref 1000, .ref 0, .ref 91, .int (nI i)] [] I Q := by
  refine ev_ald1 k0_1029 ?_
  refine ev_ald0 k0_1030 ?_
  refine ev_ild3 k0_1031 ?_
  refine ev_iconst k0_1032 ?_
  refine ev_iadd k0_1033 ?_
  rw [show nI i + (1 : Int32) = nI (i + 1) from nI_add i 1]
  refine ev_ialoadX k0_1034 (vp_in_nI (show i + 1 < L by omega) (by omega)) ?_
  rw [nI_clamp (show i + 1 < 2 ^ 31 by omega)]
  refine ev_ald0 k0_1035 ?_
  refine ev_ild3 k0_1036 ?_
  refine ev_iconst k0_1037 ?_
  refine ev_iadd k0_1038 ?_
  rw [show nI i + (2 : Int32) = nI (i + 2) from nI_add i 2]
  refine ev_ialoadX k0_1039 (vp_in_nI (show i + 2 < L by omega) (by omega)) ?_
  rw [nI_clamp (show i + 2 < 2 ^ 31 by omega)]
  refine ev_ald0 k0_1040 ?_
  refine ev_ild3 k0_1041 ?_
  refine ev_iconst k0_1042 ?_
  refine ev_iadd k0_1043 ?_
  rw [show nI i + (3 : Int32) = nI (i + 3) from nI_add i 3]
  refine ev_ialoadX k0_1044 (vp_in_nI (show i + 3 < L by omega) (by omega)) ?_
  rw [nI_clamp (show i + 3 < 2 ^ 31 by omega)]
  refine ev_cV4i k0_1045 cs_56 rfl (by omega) (Nat.le_of_ble_eq_true rfl) rfl rfl rfl ?_
  refine op_voice inv (fun v J h => ?_)
  refine ev_ald2 k0_1048 ?_
  refine ev_ald0 k0_1049 ?_
  refine ev_ild3 k0_1050 ?_
  refine ev_iconst k0_1051 ?_
  refine ev_iadd k0_1052 ?_
  rw [show nI i + (1 : Int32) = nI (i + 1) from nI_add i 1]
  refine ev_ialoadX k0_1053 (vp_in_nI (show i + 1 < L by omega) (by omega)) ?_
  rw [nI_clamp (show i + 1 < 2 ^ 31 by omega)]
  refine ev_ald0 k0_1054 ?_
  refine ev_ild3 k0_1055 ?_
  refine ev_iconst k0_1056 ?_
  refine ev_iadd k0_1057 ?_
  rw [show nI i + (2 : Int32) = nI (i + 2) from nI_add i 2]
  refine ev_ialoadX k0_1058 (vp_in_nI (show i + 2 < L by omega) (by omega)) ?_
  rw [nI_clamp (show i + 2 < 2 ^ 31 by omega)]
  refine ev_ald0 k0_1059 ?_
  refine ev_ild3 k0_1060 ?_
  refine ev_iconst k0_1061 ?_
  refine ev_iadd k0_1062 ?_
  rw [show nI i + (3 : Int32) = nI (i + 3) from nI_add i 3]
  refine ev_ialoadX k0_1063 (vp_in_nI (show i + 3 < L by omega) (by omega)) ?_
  rw [nI_clamp (show i + 3 < 2 ^ 31 by omega)]
  refine ev_cV4i k0_1064 cs_57 rfl (by omega) (Nat.le_of_ble_eq_true rfl) rfl rfl rfl ?_
  refine ev_mono h (fun w K hw => ?_)
  obtain ⟨rfl, inv2⟩ := hw
  refine ev_icmp_eq k0_1067 (fun _ => ?_) (fun hh => absurd rfl hh)
  exact next K inv2
/-- the law's call 28: trace -/
theorem lw_c28 {L : Nat} {xs : Nat → Int32} {d i : Nat} {I : mm_I} {Q : Option Value → mm_I → Prop} (hL : L ≤ 3072) (hi : i + 6 ≤ L) (inv : Inv I) (next : ∀ K, Inv K → mm_Ev mm_T0 (L, xs) (d + 61) 0 1398 [.ref 1000, .ref 0, .ref 91, .int (nI i)] [] K Q) : mm_Ev mm_T0 (L, xs) (d + 61) 0 1072 [.ref 1000, .ref 0, .ref 91, .int (nI i)] [] I Q := by
  refine ev_ald1 k0_1072 ?_
  refine ev_ald0 k0_1073 ?_
  refine ev_ild3 k0_1074 ?_
  refine ev_iconst k0_1075 ?_
  refine ev_iadd k0_1076 ?_
  rw [show nI i + (1 : Int32) = nI (i + 1) from nI_add i 1]
  refine ev_ialoadX k0_1077 (vp_in_nI (show i + 1 < L by omega) (by omega)) ?_
  rw [nI_clamp (show i + 1 < 2 ^ 31 by omega)]
  refine ev_cV2i k0_1078 cs_58 rfl (by omega) (Nat.le_of_ble_eq_true rfl) rfl rfl rfl ?_
  refine op_trace inv (fun v J h => ?_)
  refine ev_ald2 k0_1081 ?_
  refine ev_ald0 k0_1082 ?_
  refine ev_ild3 k0_1083 ?_
  refine ev_iconst k0_1084 ?_
  refine ev_iadd k0_1085 ?_
  rw [show nI i + (1 : Int32) = nI (i + 1) from nI_add i 1]
  refine ev_ialoadX k0_1086 (vp_in_nI (show i + 1 < L by omega) (by omega)) ?_
  rw [nI_clamp (show i + 1 < 2 ^ 31 by omega)]
  refine ev_cV2i k0_1087 cs_59 rfl (by omega) (Nat.le_of_ble_eq_true rfl) rfl rfl rfl ?_
  refine ev_mono h (fun w K hw => ?_)
  obtain ⟨rfl, inv2⟩ := hw
  refine ev_icmp_eq k0_1090 (fun _ => ?_) (fun hh => absurd rfl hh)
  exact next K inv2
/-- the law's call 29: sheet -/
theorem lw_c29 {L : Nat} {xs : Nat → Int32} {d i : Nat} {I : mm_I} {Q : Option Value → mm_I → Prop} (hL : L ≤ 3072) (hi : i + 6 ≤ L) (inv : Inv I) (next : ∀ K, Inv K → mm_Ev mm_T0 (L, xs) (d + 61) 0 1398 [.ref 1000, .ref 0, .ref 91, .int (nI i)] [] K Q) : mm_Ev mm_T0 (L, xs) (d + 61) 0 1095 [.ref 1000, .ref 0, .ref 91, .int (nI i)] [] I Q := by
  refine ev_ald1 k0_1095 ?_
  refine ev_ald0 k0_1096 ?_
  refine ev_ild3 k0_1097 ?_
  refine ev_iconst k0_1098 ?_
  refine ev_iadd k0_1099 ?_
  rw [show nI i + (1 : Int32) = nI (i + 1) from nI_add i 1]
  refine ev_ialoadX k0_1100 (vp_in_nI (show i + 1 < L by omega) (by omega)) ?_
  rw [nI_clamp (show i + 1 < 2 ^ 31 by omega)]
  refine ev_ald0 k0_1101 ?_
  refine ev_ild3 k0_1102 ?_
  refine ev_iconst k0_1103 ?_
  refine ev_iadd k0_1104 ?_
  rw [show nI i + (2 : Int32) = nI (i + 2) from nI_add i 2]
  refine ev_ialoadX k0_1105 (vp_in_nI (show i + 2 < L by omega) (by omega)) ?_
  rw [nI_clamp (show i + 2 < 2 ^ 31 by omega)]
  refine ev_ald0 k0_1106 ?_
  refine ev_ild3 k0_1107 ?_
  refine ev_iconst k0_1108 ?_
  refine ev_iadd k0_1109 ?_
  rw [show nI i + (3 : Int32) = nI (i + 3) from nI_add i 3]
  refine ev_ialoadX k0_1110 (vp_in_nI (show i + 3 < L by omega) (by omega)) ?_
  rw [nI_clamp (show i + 3 < 2 ^ 31 by omega)]
  refine ev_cV4i k0_1111 cs_60 rfl (by omega) (Nat.le_of_ble_eq_true rfl) rfl rfl rfl ?_
  refine op_sheet inv (fun v J h => ?_)
  refine ev_ald2 k0_1114 ?_
  refine ev_ald0 k0_1115 ?_
  refine ev_ild3 k0_1116 ?_
  refine ev_iconst k0_1117 ?_
  refine ev_iadd k0_1118 ?_
  rw [show nI i + (1 : Int32) = nI (i + 1) from nI_add i 1]
  refine ev_ialoadX k0_1119 (vp_in_nI (show i + 1 < L by omega) (by omega)) ?_
  rw [nI_clamp (show i + 1 < 2 ^ 31 by omega)]
  refine ev_ald0 k0_1120 ?_
  refine ev_ild3 k0_1121 ?_
  refine ev_iconst k0_1122 ?_
  refine ev_iadd k0_1123 ?_
  rw [show nI i + (2 : Int32) = nI (i + 2) from nI_add i 2]
  refine ev_ialoadX k0_1124 (vp_in_nI (show i + 2 < L by omega) (by omega)) ?_
  rw [nI_clamp (show i + 2 < 2 ^ 31 by omega)]
  refine ev_ald0 k0_1125 ?_
  refine ev_ild3 k0_1126 ?_
  refine ev_iconst k0_1127 ?_
  refine ev_iadd k0_1128 ?_
  rw [show nI i + (3 : Int32) = nI (i + 3) from nI_add i 3]
  refine ev_ialoadX k0_1129 (vp_in_nI (show i + 3 < L by omega) (by omega)) ?_
  rw [nI_clamp (show i + 3 < 2 ^ 31 by omega)]
  refine ev_cV4i k0_1130 cs_61 rfl (by omega) (Nat.le_of_ble_eq_true rfl) rfl rfl rfl ?_
  refine ev_mono h (fun w K hw => ?_)
  obtain ⟨rfl, inv2⟩ := hw
  refine ev_icmp_eq k0_1133 (fun _ => ?_) (fun hh => absurd rfl hh)
  exact next K inv2
/-- the law's call 30: put -/
theorem lw_c30 {L : Nat} {xs : Nat → Int32} {d i : Nat} {I : mm_I} {Q : Option Value → mm_I → Prop} (hL : L ≤ 3072) (hi : i + 6 ≤ L) (inv : Inv I) (next : ∀ K, Inv K → mm_Ev mm_T0 (L, xs) (d + 61) 0 1398 [.ref 1000, .ref 0, .ref 91, .int (nI i)] [] K Q) : mm_Ev mm_T0 (L, xs) (d + 61) 0 1138 [.ref 1000, .ref 0, .ref 91, .int (nI i)] [] I Q := by
  refine ev_ald1 k0_1138 ?_
  refine ev_ald0 k0_1139 ?_
  refine ev_ild3 k0_1140 ?_
  refine ev_iconst k0_1141 ?_
  refine ev_iadd k0_1142 ?_
  rw [show nI i + (1 : Int32) = nI (i + 1) from nI_add i 1]
  refine ev_ialoadX k0_1143 (vp_in_nI (show i + 1 < L by omega) (by omega)) ?_
  rw [nI_clamp (show i + 1 < 2 ^ 31 by omega)]
  refine ev_ald0 k0_1144 ?_
  refine ev_ild3 k0_1145 ?_
  refine ev_iconst k0_1146 ?_
  refine ev_iadd k0_1147 ?_
  rw [show nI i + (2 : Int32) = nI (i + 2) from nI_add i 2]
  refine ev_ialoadX k0_1148 (vp_in_nI (show i + 2 < L by omega) (by omega)) ?_
  rw [nI_clamp (show i + 2 < 2 ^ 31 by omega)]
  refine ev_ald0 k0_1149 ?_
  refine ev_ild3 k0_1150 ?_
  refine ev_iconst k0_1151 ?_
  refine ev_iadd k0_1152 ?_
  rw [show nI i + (3 : Int32) = nI (i + 3) from nI_add i 3]
  refine ev_ialoadX k0_1153 (vp_in_nI (show i + 3 < L by omega) (by omega)) ?_
  rw [nI_clamp (show i + 3 < 2 ^ 31 by omega)]
  refine ev_cV4i k0_1154 cs_62 rfl (by omega) (Nat.le_of_ble_eq_true rfl) rfl rfl rfl ?_
  refine op_put inv (fun v J h => ?_)
  refine ev_ald2 k0_1157 ?_
  refine ev_ald0 k0_1158 ?_
  refine ev_ild3 k0_1159 ?_
  refine ev_iconst k0_1160 ?_
  refine ev_iadd k0_1161 ?_
  rw [show nI i + (1 : Int32) = nI (i + 1) from nI_add i 1]
  refine ev_ialoadX k0_1162 (vp_in_nI (show i + 1 < L by omega) (by omega)) ?_
  rw [nI_clamp (show i + 1 < 2 ^ 31 by omega)]
  refine ev_ald0 k0_1163 ?_
  refine ev_ild3 k0_1164 ?_
  refine ev_iconst k0_1165 ?_
  refine ev_iadd k0_1166 ?_
  rw [show nI i + (2 : Int32) = nI (i + 2) from nI_add i 2]
  refine ev_ialoadX k0_1167 (vp_in_nI (show i + 2 < L by omega) (by omega)) ?_
  rw [nI_clamp (show i + 2 < 2 ^ 31 by omega)]
  refine ev_ald0 k0_1168 ?_
  refine ev_ild3 k0_1169 ?_
  refine ev_iconst k0_1170 ?_
  refine ev_iadd k0_1171 ?_
  rw [show nI i + (3 : Int32) = nI (i + 3) from nI_add i 3]
  refine ev_ialoadX k0_1172 (vp_in_nI (show i + 3 < L by omega) (by omega)) ?_
  rw [nI_clamp (show i + 3 < 2 ^ 31 by omega)]
  refine ev_cV4i k0_1173 cs_63 rfl (by omega) (Nat.le_of_ble_eq_true rfl) rfl rfl rfl ?_
  refine ev_mono h (fun w K hw => ?_)
  obtain ⟨rfl, inv2⟩ := hw
  refine ev_icmp_eq k0_1176 (fun _ => ?_) (fun hh => absurd rfl hh)
  exact next K inv2
/-- the law's call 31: move -/
theorem lw_c31 {L : Nat} {xs : Nat → Int32} {d i : Nat} {I : mm_I} {Q : Option Value → mm_I → Prop} (hL : L ≤ 3072) (hi : i + 6 ≤ L) (inv : Inv I) (next : ∀ K, Inv K → mm_Ev mm_T0 (L, xs) (d + 61) 0 1398 [.ref 1000, .ref 0, .ref 91, .int (nI i)] [] K Q) : mm_Ev mm_T0 (L, xs) (d + 61) 0 1181 [.ref 1000, .ref 0, .ref 91, .int (nI i)] [] I Q := by
  refine ev_ald1 k0_1181 ?_
  refine ev_ald0 k0_1182 ?_
  refine ev_ild3 k0_1183 ?_
  refine ev_iconst k0_1184 ?_
  refine ev_iadd k0_1185 ?_
  rw [show nI i + (1 : Int32) = nI (i + 1) from nI_add i 1]
  refine ev_ialoadX k0_1186 (vp_in_nI (show i + 1 < L by omega) (by omega)) ?_
  rw [nI_clamp (show i + 1 < 2 ^ 31 by omega)]
  refine ev_ald0 k0_1187 ?_
  refine ev_ild3 k0_1188 ?_
  refine ev_iconst k0_1189 ?_
  refine ev_iadd k0_1190 ?_
  rw [show nI i + (2 : Int32) = nI (i + 2) from nI_add i 2]
  refine ev_ialoadX k0_1191 (vp_in_nI (show i + 2 < L by omega) (by omega)) ?_
  rw [nI_clamp (show i + 2 < 2 ^ 31 by omega)]
  refine ev_ald0 k0_1192 ?_
  refine ev_ild3 k0_1193 ?_
  refine ev_iconst k0_1194 ?_
  refine ev_iadd k0_1195 ?_
  rw [show nI i + (3 : Int32) = nI (i + 3) from nI_add i 3]
  refine ev_ialoadX k0_1196 (vp_in_nI (show i + 3 < L by omega) (by omega)) ?_
  rw [nI_clamp (show i + 3 < 2 ^ 31 by omega)]
  refine ev_ald0 k0_1197 ?_
  refine ev_ild3 k0_1198 ?_
  refine ev_iconst k0_1199 ?_
  refine ev_iadd k0_1200 ?_
  rw [show nI i + (4 : Int32) = nI (i + 4) from nI_add i 4]
  refine ev_ialoadX k0_1201 (vp_in_nI (show i + 4 < L by omega) (by omega)) ?_
  rw [nI_clamp (show i + 4 < 2 ^ 31 by omega)]
  refine ev_ald0 k0_1202 ?_
  refine ev_ild3 k0_1203 ?_
  refine ev_iconst k0_1204 ?_
  refine ev_iadd k0_1205 ?_
  rw [show nI i + (5 : Int32) = nI (i + 5) from nI_add i 5]
  refine ev_ialoadX k0_1206 (vp_in_nI (show i + 5 < L by omega) (by omega)) ?_
  rw [nI_clamp (show i + 5 < 2 ^ 31 by omega)]
  refine ev_cV6i k0_1207 cs_64 rfl (by omega) (Nat.le_of_ble_eq_true rfl) rfl rfl rfl ?_
  refine op_move inv (fun v J h => ?_)
  refine ev_ald2 k0_1210 ?_
  refine ev_ald0 k0_1211 ?_
  refine ev_ild3 k0_1212 ?_
  refine ev_iconst k0_1213 ?_
  refine ev_iadd k0_1214 ?_
  rw [show nI i + (1 : Int32) = nI (i + 1) from nI_add i 1]
  refine ev_ialoadX k0_1215 (vp_in_nI (show i + 1 < L by omega) (by omega)) ?_
  rw [nI_clamp (show i + 1 < 2 ^ 31 by omega)]
  refine ev_ald0 k0_1216 ?_
  refine ev_ild3 k0_1217 ?_
  refine ev_iconst k0_1218 ?_
  refine ev_iadd k0_1219 ?_
  rw [show nI i + (2 : Int32) = nI (i + 2) from nI_add i 2]
  refine ev_ialoadX k0_1220 (vp_in_nI (show i + 2 < L by omega) (by omega)) ?_
  rw [nI_clamp (show i + 2 < 2 ^ 31 by omega)]
  refine ev_ald0 k0_1221 ?_
  refine ev_ild3 k0_1222 ?_
  refine ev_iconst k0_1223 ?_
  refine ev_iadd k0_1224 ?_
  rw [show nI i + (3 : Int32) = nI (i + 3) from nI_add i 3]
  refine ev_ialoadX k0_1225 (vp_in_nI (show i + 3 < L by omega) (by omega)) ?_
  rw [nI_clamp (show i + 3 < 2 ^ 31 by omega)]
  refine ev_ald0 k0_1226 ?_
  refine ev_ild3 k0_1227 ?_
  refine ev_iconst k0_1228 ?_
  refine ev_iadd k0_1229 ?_
  rw [show nI i + (4 : Int32) = nI (i + 4) from nI_add i 4]
  refine ev_ialoadX k0_1230 (vp_in_nI (show i + 4 < L by omega) (by omega)) ?_
  rw [nI_clamp (show i + 4 < 2 ^ 31 by omega)]
  refine ev_ald0 k0_1231 ?_
  refine ev_ild3 k0_1232 ?_
  refine ev_iconst k0_1233 ?_
  refine ev_iadd k0_1234 ?_
  rw [show nI i + (5 : Int32) = nI (i + 5) from nI_add i 5]
  refine ev_ialoadX k0_1235 (vp_in_nI (show i + 5 < L by omega) (by omega)) ?_
  rw [nI_clamp (show i + 5 < 2 ^ 31 by omega)]
  refine ev_cV6i k0_1236 cs_65 rfl (by omega) (Nat.le_of_ble_eq_true rfl) rfl rfl rfl ?_
  refine ev_mono h (fun w K hw => ?_)
  obtain ⟨rfl, inv2⟩ := hw
  refine ev_icmp_eq k0_1239 (fun _ => ?_) (fun hh => absurd rfl hh)
  exact next K inv2
/-- the law's call 32: speeds -/
theorem lw_c32 {L : Nat} {xs : Nat → Int32} {d i : Nat} {I : mm_I} {Q : Option Value → mm_I → Prop} (hL : L ≤ 3072) (hi : i + 6 ≤ L) (inv : Inv I) (next : ∀ K, Inv K → mm_Ev mm_T0 (L, xs) (d + 61) 0 1398 [.ref 1000, .ref 0, .ref 91, .int (nI i)] [] K Q) : mm_Ev mm_T0 (L, xs) (d + 61) 0 1244 [.ref 1000, .ref 0, .ref 91, .int (nI i)] [] I Q := by
  refine ev_ald1 k0_1244 ?_
  refine ev_ald0 k0_1245 ?_
  refine ev_ild3 k0_1246 ?_
  refine ev_iconst k0_1247 ?_
  refine ev_iadd k0_1248 ?_
  rw [show nI i + (1 : Int32) = nI (i + 1) from nI_add i 1]
  refine ev_ialoadX k0_1249 (vp_in_nI (show i + 1 < L by omega) (by omega)) ?_
  rw [nI_clamp (show i + 1 < 2 ^ 31 by omega)]
  refine ev_cV2i k0_1250 cs_66 rfl (by omega) (Nat.le_of_ble_eq_true rfl) rfl rfl rfl ?_
  refine op_speeds inv (fun v J h => ?_)
  refine ev_ald2 k0_1253 ?_
  refine ev_ald0 k0_1254 ?_
  refine ev_ild3 k0_1255 ?_
  refine ev_iconst k0_1256 ?_
  refine ev_iadd k0_1257 ?_
  rw [show nI i + (1 : Int32) = nI (i + 1) from nI_add i 1]
  refine ev_ialoadX k0_1258 (vp_in_nI (show i + 1 < L by omega) (by omega)) ?_
  rw [nI_clamp (show i + 1 < 2 ^ 31 by omega)]
  refine ev_cV2i k0_1259 cs_67 rfl (by omega) (Nat.le_of_ble_eq_true rfl) rfl rfl rfl ?_
  refine ev_mono h (fun w K hw => ?_)
  obtain ⟨rfl, inv2⟩ := hw
  refine ev_icmp_eq k0_1262 (fun _ => ?_) (fun hh => absurd rfl hh)
  exact next K inv2
/-- the law's call 33: judge -/
theorem lw_c33 {L : Nat} {xs : Nat → Int32} {d i : Nat} {I : mm_I} {Q : Option Value → mm_I → Prop} (hL : L ≤ 3072) (hi : i + 6 ≤ L) (inv : Inv I) (next : ∀ K, Inv K → mm_Ev mm_T0 (L, xs) (d + 61) 0 1398 [.ref 1000, .ref 0, .ref 91, .int (nI i)] [] K Q) : mm_Ev mm_T0 (L, xs) (d + 61) 0 1267 [.ref 1000, .ref 0, .ref 91, .int (nI i)] [] I Q := by
  refine ev_ald1 k0_1267 ?_
  refine ev_ald0 k0_1268 ?_
  refine ev_ild3 k0_1269 ?_
  refine ev_iconst k0_1270 ?_
  refine ev_iadd k0_1271 ?_
  rw [show nI i + (1 : Int32) = nI (i + 1) from nI_add i 1]
  refine ev_ialoadX k0_1272 (vp_in_nI (show i + 1 < L by omega) (by omega)) ?_
  rw [nI_clamp (show i + 1 < 2 ^ 31 by omega)]
  refine ev_cV2i k0_1273 cs_68 rfl (by omega) (Nat.le_of_ble_eq_true rfl) rfl rfl rfl ?_
  refine op_judge inv (fun v J h => ?_)
  refine ev_ald2 k0_1276 ?_
  refine ev_ald0 k0_1277 ?_
  refine ev_ild3 k0_1278 ?_
  refine ev_iconst k0_1279 ?_
  refine ev_iadd k0_1280 ?_
  rw [show nI i + (1 : Int32) = nI (i + 1) from nI_add i 1]
  refine ev_ialoadX k0_1281 (vp_in_nI (show i + 1 < L by omega) (by omega)) ?_
  rw [nI_clamp (show i + 1 < 2 ^ 31 by omega)]
  refine ev_cV2i k0_1282 cs_69 rfl (by omega) (Nat.le_of_ble_eq_true rfl) rfl rfl rfl ?_
  refine ev_mono h (fun w K hw => ?_)
  obtain ⟨rfl, inv2⟩ := hw
  refine ev_icmp_eq k0_1285 (fun _ => ?_) (fun hh => absurd rfl hh)
  exact next K inv2
/-- the law's call 34: image -/
theorem lw_c34 {L : Nat} {xs : Nat → Int32} {d i : Nat} {I : mm_I} {Q : Option Value → mm_I → Prop} (hL : L ≤ 3072) (hi : i + 6 ≤ L) (inv : Inv I) (next : ∀ K, Inv K → mm_Ev mm_T0 (L, xs) (d + 61) 0 1398 [.ref 1000, .ref 0, .ref 91, .int (nI i)] [] K Q) : mm_Ev mm_T0 (L, xs) (d + 61) 0 1290 [.ref 1000, .ref 0, .ref 91, .int (nI i)] [] I Q := by
  refine ev_ald1 k0_1290 ?_
  refine ev_cV1i k0_1291 cs_70 rfl (by omega) (Nat.le_of_ble_eq_true rfl) rfl rfl rfl ?_
  refine op_image inv (fun v J h => ?_)
  refine ev_ald2 k0_1294 ?_
  refine ev_cV1i k0_1295 cs_71 rfl (by omega) (Nat.le_of_ble_eq_true rfl) rfl rfl rfl ?_
  refine ev_mono h (fun w K hw => ?_)
  obtain ⟨rfl, inv2⟩ := hw
  refine ev_icmp_eq k0_1298 (fun _ => ?_) (fun hh => absurd rfl hh)
  exact next K inv2
/-- the law's call 35: restore -/
theorem lw_c35 {L : Nat} {xs : Nat → Int32} {d i : Nat} {I : mm_I} {Q : Option Value → mm_I → Prop} (hL : L ≤ 3072) (hi : i + 6 ≤ L) (inv : Inv I) (next : ∀ K, Inv K → mm_Ev mm_T0 (L, xs) (d + 61) 0 1398 [.ref 1000, .ref 0, .ref 91, .int (nI i)] [] K Q) : mm_Ev mm_T0 (L, xs) (d + 61) 0 1303 [.ref 1000, .ref 0, .ref 91, .int (nI i)] [] I Q := by
  refine ev_ald1 k0_1303 ?_
  refine ev_cV1i k0_1304 cs_72 rfl (by omega) (Nat.le_of_ble_eq_true rfl) rfl rfl rfl ?_
  refine op_restore inv (fun v J h => ?_)
  refine ev_ald2 k0_1307 ?_
  refine ev_cV1i k0_1308 cs_73 rfl (by omega) (Nat.le_of_ble_eq_true rfl) rfl rfl rfl ?_
  refine ev_mono h (fun w K hw => ?_)
  obtain ⟨rfl, inv2⟩ := hw
  refine ev_icmp_eq k0_1311 (fun _ => ?_) (fun hh => absurd rfl hh)
  exact next K inv2
/-- the law's call 36: tell -/
theorem lw_c36 {L : Nat} {xs : Nat → Int32} {d i : Nat} {I : mm_I} {Q : Option Value → mm_I → Prop} (hL : L ≤ 3072) (hi : i + 6 ≤ L) (inv : Inv I) (next : ∀ K, Inv K → mm_Ev mm_T0 (L, xs) (d + 61) 0 1398 [.ref 1000, .ref 0, .ref 91, .int (nI i)] [] K Q) : mm_Ev mm_T0 (L, xs) (d + 61) 0 1316 [.ref 1000, .ref 0, .ref 91, .int (nI i)] [] I Q := by
  refine ev_ald1 k0_1316 ?_
  refine ev_ald0 k0_1317 ?_
  refine ev_ild3 k0_1318 ?_
  refine ev_iconst k0_1319 ?_
  refine ev_iadd k0_1320 ?_
  rw [show nI i + (1 : Int32) = nI (i + 1) from nI_add i 1]
  refine ev_ialoadX k0_1321 (vp_in_nI (show i + 1 < L by omega) (by omega)) ?_
  rw [nI_clamp (show i + 1 < 2 ^ 31 by omega)]
  refine ev_cV2i k0_1322 cs_74 rfl (by omega) (Nat.le_of_ble_eq_true rfl) rfl rfl rfl ?_
  refine op_tell inv (fun v J h => ?_)
  refine ev_ald2 k0_1325 ?_
  refine ev_ald0 k0_1326 ?_
  refine ev_ild3 k0_1327 ?_
  refine ev_iconst k0_1328 ?_
  refine ev_iadd k0_1329 ?_
  rw [show nI i + (1 : Int32) = nI (i + 1) from nI_add i 1]
  refine ev_ialoadX k0_1330 (vp_in_nI (show i + 1 < L by omega) (by omega)) ?_
  rw [nI_clamp (show i + 1 < 2 ^ 31 by omega)]
  refine ev_cV2i k0_1331 cs_75 rfl (by omega) (Nat.le_of_ble_eq_true rfl) rfl rfl rfl ?_
  refine ev_mono h (fun w K hw => ?_)
  obtain ⟨rfl, inv2⟩ := hw
  refine ev_icmp_eq k0_1334 (fun _ => ?_) (fun hh => absurd rfl hh)
  exact next K inv2
/-- the law's call 37: check -/
theorem lw_c37 {L : Nat} {xs : Nat → Int32} {d i : Nat} {I : mm_I} {Q : Option Value → mm_I → Prop} (hL : L ≤ 3072) (hi : i + 6 ≤ L) (inv : Inv I) (next : ∀ K, Inv K → mm_Ev mm_T0 (L, xs) (d + 61) 0 1398 [.ref 1000, .ref 0, .ref 91, .int (nI i)] [] K Q) : mm_Ev mm_T0 (L, xs) (d + 61) 0 1339 [.ref 1000, .ref 0, .ref 91, .int (nI i)] [] I Q := by
  refine ev_ald1 k0_1339 ?_
  refine ev_cV1i k0_1340 cs_76 rfl (by omega) (Nat.le_of_ble_eq_true rfl) rfl rfl rfl ?_
  refine op_check inv (fun v J h => ?_)
  refine ev_ald2 k0_1343 ?_
  refine ev_cV1i k0_1344 cs_77 rfl (by omega) (Nat.le_of_ble_eq_true rfl) rfl rfl rfl ?_
  refine ev_mono h (fun w K hw => ?_)
  obtain ⟨rfl, inv2⟩ := hw
  refine ev_icmp_eq k0_1347 (fun _ => ?_) (fun hh => absurd rfl hh)
  exact next K inv2
/-- the law's call 38: count -/
theorem lw_c38 {L : Nat} {xs : Nat → Int32} {d i : Nat} {I : mm_I} {Q : Option Value → mm_I → Prop} (hL : L ≤ 3072) (hi : i + 6 ≤ L) (inv : Inv I) (next : ∀ K, Inv K → mm_Ev mm_T0 (L, xs) (d + 61) 0 1398 [.ref 1000, .ref 0, .ref 91, .int (nI i)] [] K Q) : mm_Ev mm_T0 (L, xs) (d + 61) 0 1352 [.ref 1000, .ref 0, .ref 91, .int (nI i)] [] I Q := by
  refine ev_ald1 k0_1352 ?_
  refine ev_ald0 k0_1353 ?_
  refine ev_ild3 k0_1354 ?_
  refine ev_iconst k0_1355 ?_
  refine ev_iadd k0_1356 ?_
  rw [show nI i + (1 : Int32) = nI (i + 1) from nI_add i 1]
  refine ev_ialoadX k0_1357 (vp_in_nI (show i + 1 < L by omega) (by omega)) ?_
  rw [nI_clamp (show i + 1 < 2 ^ 31 by omega)]
  refine ev_cV2i k0_1358 cs_78 rfl (by omega) (Nat.le_of_ble_eq_true rfl) rfl rfl rfl ?_
  refine op_count inv (fun v J h => ?_)
  refine ev_ald2 k0_1361 ?_
  refine ev_ald0 k0_1362 ?_
  refine ev_ild3 k0_1363 ?_
  refine ev_iconst k0_1364 ?_
  refine ev_iadd k0_1365 ?_
  rw [show nI i + (1 : Int32) = nI (i + 1) from nI_add i 1]
  refine ev_ialoadX k0_1366 (vp_in_nI (show i + 1 < L by omega) (by omega)) ?_
  rw [nI_clamp (show i + 1 < 2 ^ 31 by omega)]
  refine ev_cV2i k0_1367 cs_79 rfl (by omega) (Nat.le_of_ble_eq_true rfl) rfl rfl rfl ?_
  refine ev_mono h (fun w K hw => ?_)
  obtain ⟨rfl, inv2⟩ := hw
  refine ev_icmp_eq k0_1370 (fun _ => ?_) (fun hh => absurd rfl hh)
  exact next K inv2
/-- the law's call 39: told -/
theorem lw_c39 {L : Nat} {xs : Nat → Int32} {d i : Nat} {I : mm_I} {Q : Option Value → mm_I → Prop} (hL : L ≤ 3072) (hi : i + 6 ≤ L) (inv : Inv I) (next : ∀ K, Inv K → mm_Ev mm_T0 (L, xs) (d + 61) 0 1398 [.ref 1000, .ref 0, .ref 91, .int (nI i)] [] K Q) : mm_Ev mm_T0 (L, xs) (d + 61) 0 1375 [.ref 1000, .ref 0, .ref 91, .int (nI i)] [] I Q := by
  refine ev_ald1 k0_1375 ?_
  refine ev_ald0 k0_1376 ?_
  refine ev_ild3 k0_1377 ?_
  refine ev_iconst k0_1378 ?_
  refine ev_iadd k0_1379 ?_
  rw [show nI i + (1 : Int32) = nI (i + 1) from nI_add i 1]
  refine ev_ialoadX k0_1380 (vp_in_nI (show i + 1 < L by omega) (by omega)) ?_
  rw [nI_clamp (show i + 1 < 2 ^ 31 by omega)]
  refine ev_cV2i k0_1381 cs_80 rfl (by omega) (Nat.le_of_ble_eq_true rfl) rfl rfl rfl ?_
  refine op_told inv (fun v J h => ?_)
  refine ev_ald2 k0_1384 ?_
  refine ev_ald0 k0_1385 ?_
  refine ev_ild3 k0_1386 ?_
  refine ev_iconst k0_1387 ?_
  refine ev_iadd k0_1388 ?_
  rw [show nI i + (1 : Int32) = nI (i + 1) from nI_add i 1]
  refine ev_ialoadX k0_1389 (vp_in_nI (show i + 1 < L by omega) (by omega)) ?_
  rw [nI_clamp (show i + 1 < 2 ^ 31 by omega)]
  refine ev_cV2i k0_1390 cs_81 rfl (by omega) (Nat.le_of_ble_eq_true rfl) rfl rfl rfl ?_
  refine ev_mono h (fun w K hw => ?_)
  obtain ⟨rfl, inv2⟩ := hw
  refine ev_icmp_eq k0_1393 (fun _ => ?_) (fun hh => absurd rfl hh)
  exact next K inv2
theorem lw_sub {L i : Nat} (hL : L ≤ 3072) (hi : i ≤ 4000) : Int32.ofNat L - 6 < nI i ↔ L < i + 6 := by
  rw [show Int32.ofNat L = nI L from rfl, show (6 : Int32) = nI 6 from rfl, Int32.lt_iff_toInt_lt, pk_sub_toInt (by omega) (by omega), nI_toInt (by omega)]
  omega
/-- the law's loop -/
theorem lw_loop {L : Nat} {xs : Nat → Int32} {d : Nat} (hL : L ≤ 3072) : ∀ (n i : Nat) (I : mm_I), L ≤ i + n → i ≤ L → Inv I → mm_Ev mm_T0 (L, xs) (d + 61) 0 18 [.ref 1000, .ref 0, .ref 91, .int (nI i)] [] I (mm_pi fun r _ => r = 1) := by
  intro n
  induction n with
  | zero =>
    intro i I hn hi inv
    refine ev_ild3 k0_18 ?_
    refine ev_ald0 k0_19 ?_
    refine ev_alenX k0_20 ?_
    refine ev_bipush k0_21 ?_
    refine ev_isub k0_23 ?_
    refine ev_icmp_gt k0_24 (fun h => ?_) (fun h => absurd ((lw_sub hL (by omega)).mpr (by omega)) h)
    refine ev_iconst k0_1404 ?_
    refine ev_rz k0_1405 rfl (Or.inr rfl) ?_
    rfl
  | succ n ih =>
    intro i I hn hi inv
    refine ev_ild3 k0_18 ?_
    refine ev_ald0 k0_19 ?_
    refine ev_alenX k0_20 ?_
    refine ev_bipush k0_21 ?_
    refine ev_isub k0_23 ?_
    refine ev_icmp_gt k0_24 (fun h => ?_) (fun h => ?_)
    · refine ev_iconst k0_1404 ?_
      refine ev_rz k0_1405 rfl (Or.inr rfl) ?_
      rfl
    have hi6 : i + 6 ≤ L := Nat.le_of_not_lt (fun z => h ((lw_sub hL (by omega)).mpr z))
    have next : ∀ K, Inv K → mm_Ev mm_T0 (L, xs) (d + 61) 0 1398 [.ref 1000, .ref 0, .ref 91, .int (nI i)] [] K (mm_pi fun r _ => r = 1) := fun K inv2 => by
      refine ev_inc3 k0_1398 rfl ?_
      refine ev_goto k0_1401 ?_
      rw [show nI i + (6 : Int32) = nI (i + 6) from nI_add i 6]
      exact ih (i + 6) K (by omega) hi6 inv2
    refine ev_ald0 k0_27 ?_
    refine ev_ild3 k0_28 ?_
    refine ev_ialoadX k0_29 (vp_in_nI (show i < L by omega) (by omega)) ?_
    refine ev_bipush k0_30 ?_
    refine ev_iand k0_32 ?_
    refine ev_tb (l := [(0, 175), (1, 208), (2, 241), (3, 284), (4, 317), (5, 350), (6, 373), (7, 406), (8, 449), (9, 482), (10, 545), (11, 568), (12, 621), (13, 654), (14, 687), (15, 700), (16, 723), (17, 746), (18, 779), (19, 802), (20, 825), (21, 848), (22, 871), (23, 904), (24, 927), (25, 960), (26, 973), (27, 996), (28, 1039), (29, 1062), (30, 1105), (31, 1148), (32, 1211), (33, 1234), (34, 1257), (35, 1270), (36, 1283), (37, 1306), (38, 1319), (39, 1342)]) k0_33 rfl rfl ?_
    refine sw_cons (key := 0) (t := 208) rfl rfl (fun _ => lw_c0 hL (by omega) inv next) (fun _ => ?_)
    refine sw_cons (key := 1) (t := 241) rfl rfl (fun _ => lw_c1 hL (by omega) inv next) (fun _ => ?_)
    refine sw_cons (key := 2) (t := 274) rfl rfl (fun _ => lw_c2 hL (by omega) inv next) (fun _ => ?_)
    refine sw_cons (key := 3) (t := 317) rfl rfl (fun _ => lw_c3 hL (by omega) inv next) (fun _ => ?_)
    refine sw_cons (key := 4) (t := 350) rfl rfl (fun _ => lw_c4 hL (by omega) inv next) (fun _ => ?_)
    refine sw_cons (key := 5) (t := 383) rfl rfl (fun _ => lw_c5 hL (by omega) inv next) (fun _ => ?_)
    refine sw_cons (key := 6) (t := 406) rfl rfl (fun _ => lw_c6 hL (by omega) inv next) (fun _ => ?_)
    refine sw_cons (key := 7) (t := 439) rfl rfl (fun _ => lw_c7 hL (by omega) inv next) (fun _ => ?_)
    refine sw_cons (key := 8) (t := 482) rfl rfl (fun _ => lw_c8 hL (by omega) inv next) (fun _ => ?_)
    refine sw_cons (key := 9) (t := 515) rfl rfl (fun _ => lw_c9 hL (by omega) inv next) (fun _ => ?_)
    refine sw_cons (key := 10) (t := 578) rfl rfl (fun _ => lw_c10 hL (by omega) inv next) (fun _ => ?_)
    refine sw_cons (key := 11) (t := 601) rfl rfl (fun _ => lw_c11 hL (by omega) inv next) (fun _ => ?_)
    refine sw_cons (key := 12) (t := 654) rfl rfl (fun _ => lw_c12 hL (by omega) inv next) (fun _ => ?_)
    refine sw_cons (key := 13) (t := 687) rfl rfl (fun _ => lw_c13 hL (by omega) inv next) (fun _ => ?_)
    refine sw_cons (key := 14) (t := 720) rfl rfl (fun _ => lw_c14 hL (by omega) inv next) (fun _ => ?_)
    refine sw_cons (key := 15) (t := 733) rfl rfl (fun _ => lw_c15 hL (by omega) inv next) (fun _ => ?_)
    refine sw_cons (key := 16) (t := 756) rfl rfl (fun _ => lw_c16 hL (by omega) inv next) (fun _ => ?_)
    refine sw_cons (key := 17) (t := 779) rfl rfl (fun _ => lw_c17 hL (by omega) inv next) (fun _ => ?_)
    refine sw_cons (key := 18) (t := 812) rfl rfl (fun _ => lw_c18 hL (by omega) inv next) (fun _ => ?_)
    refine sw_cons (key := 19) (t := 835) rfl rfl (fun _ => lw_c19 hL (by omega) inv next) (fun _ => ?_)
    refine sw_cons (key := 20) (t := 858) rfl rfl (fun _ => lw_c20 hL (by omega) inv next) (fun _ => ?_)
    refine sw_cons (key := 21) (t := 881) rfl rfl (fun _ => lw_c21 hL (by omega) inv next) (fun _ => ?_)
    refine sw_cons (key := 22) (t := 904) rfl rfl (fun _ => lw_c22 hL (by omega) inv next) (fun _ => ?_)
    refine sw_cons (key := 23) (t := 937) rfl rfl (fun _ => lw_c23 hL (by omega) inv next) (fun _ => ?_)
    refine sw_cons (key := 24) (t := 960) rfl rfl (fun _ => lw_c24 hL (by omega) inv next) (fun _ => ?_)
    refine sw_cons (key := 25) (t := 993) rfl rfl (fun _ => lw_c25 hL (by omega) inv next) (fun _ => ?_)
    refine sw_cons (key := 26) (t := 1006) rfl rfl (fun _ => lw_c26 hL (by omega) inv next) (fun _ => ?_)
    refine sw_cons (key := 27) (t := 1029) rfl rfl (fun _ => lw_c27 hL (by omega) inv next) (fun _ => ?_)
    refine sw_cons (key := 28) (t := 1072) rfl rfl (fun _ => lw_c28 hL (by omega) inv next) (fun _ => ?_)
    refine sw_cons (key := 29) (t := 1095) rfl rfl (fun _ => lw_c29 hL (by omega) inv next) (fun _ => ?_)
    refine sw_cons (key := 30) (t := 1138) rfl rfl (fun _ => lw_c30 hL (by omega) inv next) (fun _ => ?_)
    refine sw_cons (key := 31) (t := 1181) rfl rfl (fun _ => lw_c31 hL (by omega) inv next) (fun _ => ?_)
    refine sw_cons (key := 32) (t := 1244) rfl rfl (fun _ => lw_c32 hL (by omega) inv next) (fun _ => ?_)
    refine sw_cons (key := 33) (t := 1267) rfl rfl (fun _ => lw_c33 hL (by omega) inv next) (fun _ => ?_)
    refine sw_cons (key := 34) (t := 1290) rfl rfl (fun _ => lw_c34 hL (by omega) inv next) (fun _ => ?_)
    refine sw_cons (key := 35) (t := 1303) rfl rfl (fun _ => lw_c35 hL (by omega) inv next) (fun _ => ?_)
    refine sw_cons (key := 36) (t := 1316) rfl rfl (fun _ => lw_c36 hL (by omega) inv next) (fun _ => ?_)
    refine sw_cons (key := 37) (t := 1339) rfl rfl (fun _ => lw_c37 hL (by omega) inv next) (fun _ => ?_)
    refine sw_cons (key := 38) (t := 1352) rfl rfl (fun _ => lw_c38 hL (by omega) inv next) (fun _ => ?_)
    refine sw_cons (key := 39) (t := 1375) rfl rfl (fun _ => lw_c39 hL (by omega) inv next) (fun _ => ?_)
    refine sw_nil (t := 1398) rfl ?_
    exact next I inv
