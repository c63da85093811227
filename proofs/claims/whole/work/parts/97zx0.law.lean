/-! The law: its cases. By program (g97zx.py). -/
section LW
variable {e : List Int32 × Value} {d : Nat} {m : zMm}
theorem zx_dup {P : zP} {M : zM} {E : zS} : ∀ (n d mi pc : Nat) (L st : List Value) (h : zH) (r : Option Value × zH), zexec P M E n d mi pc L st h = some r → zexec P M E n (d + 1) mi pc L st h = some r := by
  intro n
  induction n with
  | zero => intro d mi pc L st h r hs; cases hs
  | succ n ih =>
    intro d mi pc L st h r hs
    rw [zexec] at hs ⊢
    split at hs
    · cases hs
    · split at hs
      · split at hs
        · exact ih _ _ _ _ _ _ _ hs
        · cases hs
      · split at hs
        · exact ih _ _ _ _ _ _ _ hs
        · cases hs
      · split at hs
        · split at hs
          · exact ih _ _ _ _ _ _ _ hs
          · cases hs
        · cases hs
      · split at hs
        · split at hs
          · exact ih _ _ _ _ _ _ _ hs
          · cases hs
        · cases hs
      · split at hs
        · exact ih _ _ _ _ _ _ _ hs
        · cases hs
      · exact hs
      · split at hs
        · rename_i dd as rest q1 q2 maxL q3 ha hm
          split at hs
          · rename_i hc
            split at hs
            · rename_i r1 h1 hcall
              have hcall' := ih _ _ _ _ _ _ _ hcall
              rw [ha, hm]
              dsimp only
              split at hs
              · rename_i hc2
                have hs' := ih _ _ _ _ _ _ _ hs
                simp only [hc, hcall', hc2, and_self, if_true]
                exact hs'
              · cases hs
            · cases hs
          · cases hs
        · cases hs
theorem zx_dle {P : zP} {M : zM} {E : zS} {n d d' mi pc : Nat} {L st : List Value} {h : zH} {r : Option Value × zH} (hle : d ≤ d') (hs : zexec P M E n d mi pc L st h = some r) : zexec P M E n d' mi pc L st h = some r := by
  induction hle with
  | refl => exact hs
  | step _ ih => exact zx_dup _ _ _ _ _ _ _ _ ih
theorem Z_up {d d' mi pc : Nat} {L st : List Value} {v : Int} {m' : zMm} (hle : d ≤ d') (h : Z e d mi pc L st m = ri v m') : Z e d' mi pc L st m = ri v m' := by
  obtain ⟨n, hn⟩ := rv_iff.mp h
  exact rv_iff.mpr ⟨n, zx_dle hle hn⟩
theorem p_0_18 : zP1 0 18 = some (.iload_n 3, 0, 0, 0) := zp_l zq_0 rfl
theorem p_0_19 : zP1 0 19 = some (.aload_n 0, 0, 0, 0) := zp_l zq_0 rfl
theorem p_0_20 : zP1 0 20 = some (.arraylength, 0, 0, 0) := zp_l zq_0 rfl
theorem p_0_21 : zP1 0 21 = some (.bipush 7, 0, 0, 0) := zp_l zq_0 rfl
theorem p_0_23 : zP1 0 23 = some (.isub, 0, 0, 0) := zp_l zq_0 rfl
theorem p_0_24 : zP1 0 24 = some (.if_icmp .gt 2127, 0, 0, 0) := zp_l zq_0 rfl
theorem p_0_27 : zP1 0 27 = some (.aload_n 0, 0, 0, 0) := zp_l zq_0 rfl
theorem p_0_28 : zP1 0 28 = some (.iload_n 3, 0, 0, 0) := zp_l zq_0 rfl
theorem p_0_29 : zP1 0 29 = some (.iaload, 0, 0, 0) := zp_l zq_0 rfl
theorem p_0_30 : zP1 0 30 = some (.bipush 63, 0, 0, 0) := zp_l zq_0 rfl
theorem p_0_32 : zP1 0 32 = some (.iand, 0, 0, 0) := zp_l zq_0 rfl
theorem p_0_33 : zP1 0 33 = some (.tableswitch 2112 0 54 #[235, 258, 291, 334, 367, 400, 433, 466, 499, 532, 595, 618, 641, 674, 707, 782, 825, 868, 921, 974, 1007, 1030, 1053, 1086, 1109, 1152, 1185, 1218, 1251, 1304, 1337, 1370, 1423, 1456, 1499, 1512, 1525, 1548, 1561, 1594, 1627, 1670, 1693, 1726, 1759, 1802, 1845, 1888, 1921, 1964, 1997, 2040, 2063, 2086, 2099], 0, 0, 0) := zp_l zq_0 rfl
theorem p_0_268 : zP1 0 268 = some (.aload_n 1, 0, 0, 0) := zp_l zq_0 rfl
theorem p_0_269 : zP1 0 269 = some (.aload_n 0, 0, 0, 0) := zp_l zq_0 rfl
theorem p_0_270 : zP1 0 270 = some (.iload_n 3, 0, 0, 0) := zp_l zq_0 rfl
theorem p_0_271 : zP1 0 271 = some (.iconst 1, 0, 0, 0) := zp_l zq_0 rfl
theorem p_0_272 : zP1 0 272 = some (.iadd, 0, 0, 0) := zp_l zq_0 rfl
theorem p_0_273 : zP1 0 273 = some (.iaload, 0, 0, 0) := zp_l zq_0 rfl
theorem p_0_274 : zP1 0 274 = some (.invokevirtual 13, 139, 1, 10) := zp_r zq_0 rfl
theorem p_0_277 : zP1 0 277 = some (.aload_n 2, 0, 0, 0) := zp_l zq_0 rfl
theorem p_0_278 : zP1 0 278 = some (.aload_n 0, 0, 0, 0) := zp_l zq_0 rfl
theorem p_0_279 : zP1 0 279 = some (.iload_n 3, 0, 0, 0) := zp_l zq_0 rfl
theorem p_0_280 : zP1 0 280 = some (.iconst 1, 0, 0, 0) := zp_l zq_0 rfl
theorem p_0_281 : zP1 0 281 = some (.iadd, 0, 0, 0) := zp_l zq_0 rfl
theorem p_0_282 : zP1 0 282 = some (.iaload, 0, 0, 0) := zp_l zq_0 rfl
theorem p_0_283 : zP1 0 283 = some (.invokevirtual 17, 282, 1, 11) := zp_r zq_0 rfl
theorem p_0_286 : zP1 0 286 = some (.if_icmp .eq 1859, 0, 0, 0) := zp_l zq_0 rfl
theorem p_0_289 : zP1 0 289 = some (.iconst 0, 0, 0, 0) := zp_l zq_0 rfl
theorem p_0_290 : zP1 0 290 = some (.ireturn, 0, 0, 0) := zp_l zq_0 rfl
theorem p_0_291 : zP1 0 291 = some (.aload_n 1, 0, 0, 0) := zp_l zq_0 rfl
theorem p_0_292 : zP1 0 292 = some (.aload_n 0, 0, 0, 0) := zp_l zq_0 rfl
theorem p_0_293 : zP1 0 293 = some (.iload_n 3, 0, 0, 0) := zp_l zq_0 rfl
theorem p_0_294 : zP1 0 294 = some (.iconst 1, 0, 0, 0) := zp_l zq_0 rfl
theorem p_0_295 : zP1 0 295 = some (.iadd, 0, 0, 0) := zp_l zq_0 rfl
theorem p_0_296 : zP1 0 296 = some (.iaload, 0, 0, 0) := zp_l zq_0 rfl
theorem p_0_297 : zP1 0 297 = some (.aload_n 0, 0, 0, 0) := zp_l zq_0 rfl
theorem p_0_298 : zP1 0 298 = some (.iload_n 3, 0, 0, 0) := zp_l zq_0 rfl
theorem p_0_299 : zP1 0 299 = some (.iconst 2, 0, 0, 0) := zp_l zq_0 rfl
theorem p_0_300 : zP1 0 300 = some (.iadd, 0, 0, 0) := zp_l zq_0 rfl
theorem p_0_301 : zP1 0 301 = some (.iaload, 0, 0, 0) := zp_l zq_0 rfl
theorem p_0_302 : zP1 0 302 = some (.invokevirtual 18, 140, 2, 10) := zp_r zq_0 rfl
theorem p_0_305 : zP1 0 305 = some (.aload_n 2, 0, 0, 0) := zp_l zq_0 rfl
theorem p_0_306 : zP1 0 306 = some (.aload_n 0, 0, 0, 0) := zp_l zq_0 rfl
theorem p_0_307 : zP1 0 307 = some (.iload_n 3, 0, 0, 0) := zp_l zq_0 rfl
theorem p_0_308 : zP1 0 308 = some (.iconst 1, 0, 0, 0) := zp_l zq_0 rfl
theorem p_0_309 : zP1 0 309 = some (.iadd, 0, 0, 0) := zp_l zq_0 rfl
theorem p_0_310 : zP1 0 310 = some (.iaload, 0, 0, 0) := zp_l zq_0 rfl
theorem p_0_311 : zP1 0 311 = some (.aload_n 0, 0, 0, 0) := zp_l zq_0 rfl
theorem p_0_312 : zP1 0 312 = some (.iload_n 3, 0, 0, 0) := zp_l zq_0 rfl
theorem p_0_313 : zP1 0 313 = some (.iconst 2, 0, 0, 0) := zp_l zq_0 rfl
theorem p_0_314 : zP1 0 314 = some (.iadd, 0, 0, 0) := zp_l zq_0 rfl
theorem p_0_315 : zP1 0 315 = some (.iaload, 0, 0, 0) := zp_l zq_0 rfl
theorem p_0_316 : zP1 0 316 = some (.invokevirtual 22, 212, 2, 11) := zp_r zq_0 rfl
theorem p_0_319 : zP1 0 319 = some (.if_icmp .eq 1826, 0, 0, 0) := zp_l zq_0 rfl
theorem p_0_322 : zP1 0 322 = some (.iconst 0, 0, 0, 0) := zp_l zq_0 rfl
theorem p_0_323 : zP1 0 323 = some (.ireturn, 0, 0, 0) := zp_l zq_0 rfl
theorem p_0_324 : zP1 0 324 = some (.aload_n 1, 0, 0, 0) := zp_l zq_0 rfl
theorem p_0_325 : zP1 0 325 = some (.aload_n 0, 0, 0, 0) := zp_l zq_0 rfl
theorem p_0_326 : zP1 0 326 = some (.iload_n 3, 0, 0, 0) := zp_l zq_0 rfl
theorem p_0_327 : zP1 0 327 = some (.iconst 1, 0, 0, 0) := zp_l zq_0 rfl
theorem p_0_328 : zP1 0 328 = some (.iadd, 0, 0, 0) := zp_l zq_0 rfl
theorem p_0_329 : zP1 0 329 = some (.iaload, 0, 0, 0) := zp_l zq_0 rfl
theorem p_0_330 : zP1 0 330 = some (.aload_n 0, 0, 0, 0) := zp_l zq_0 rfl
theorem p_0_331 : zP1 0 331 = some (.iload_n 3, 0, 0, 0) := zp_l zq_0 rfl
theorem p_0_332 : zP1 0 332 = some (.iconst 2, 0, 0, 0) := zp_l zq_0 rfl
theorem p_0_333 : zP1 0 333 = some (.iadd, 0, 0, 0) := zp_l zq_0 rfl
theorem p_0_334 : zP1 0 334 = some (.iaload, 0, 0, 0) := zp_l zq_0 rfl
theorem p_0_335 : zP1 0 335 = some (.aload_n 0, 0, 0, 0) := zp_l zq_0 rfl
theorem p_0_336 : zP1 0 336 = some (.iload_n 3, 0, 0, 0) := zp_l zq_0 rfl
theorem p_0_337 : zP1 0 337 = some (.iconst 3, 0, 0, 0) := zp_l zq_0 rfl
theorem p_0_338 : zP1 0 338 = some (.iadd, 0, 0, 0) := zp_l zq_0 rfl
theorem p_0_339 : zP1 0 339 = some (.iaload, 0, 0, 0) := zp_l zq_0 rfl
theorem p_0_340 : zP1 0 340 = some (.invokevirtual 23, 141, 3, 10) := zp_r zq_0 rfl
theorem p_0_343 : zP1 0 343 = some (.aload_n 2, 0, 0, 0) := zp_l zq_0 rfl
theorem p_0_344 : zP1 0 344 = some (.aload_n 0, 0, 0, 0) := zp_l zq_0 rfl
theorem p_0_345 : zP1 0 345 = some (.iload_n 3, 0, 0, 0) := zp_l zq_0 rfl
theorem p_0_346 : zP1 0 346 = some (.iconst 1, 0, 0, 0) := zp_l zq_0 rfl
theorem p_0_347 : zP1 0 347 = some (.iadd, 0, 0, 0) := zp_l zq_0 rfl
theorem p_0_348 : zP1 0 348 = some (.iaload, 0, 0, 0) := zp_l zq_0 rfl
theorem p_0_349 : zP1 0 349 = some (.aload_n 0, 0, 0, 0) := zp_l zq_0 rfl
theorem p_0_350 : zP1 0 350 = some (.iload_n 3, 0, 0, 0) := zp_l zq_0 rfl
theorem p_0_351 : zP1 0 351 = some (.iconst 2, 0, 0, 0) := zp_l zq_0 rfl
theorem p_0_352 : zP1 0 352 = some (.iadd, 0, 0, 0) := zp_l zq_0 rfl
theorem p_0_353 : zP1 0 353 = some (.iaload, 0, 0, 0) := zp_l zq_0 rfl
theorem p_0_354 : zP1 0 354 = some (.aload_n 0, 0, 0, 0) := zp_l zq_0 rfl
theorem p_0_355 : zP1 0 355 = some (.iload_n 3, 0, 0, 0) := zp_l zq_0 rfl
theorem p_0_356 : zP1 0 356 = some (.iconst 3, 0, 0, 0) := zp_l zq_0 rfl
theorem p_0_357 : zP1 0 357 = some (.iadd, 0, 0, 0) := zp_l zq_0 rfl
theorem p_0_358 : zP1 0 358 = some (.iaload, 0, 0, 0) := zp_l zq_0 rfl
theorem p_0_359 : zP1 0 359 = some (.invokevirtual 27, 213, 3, 11) := zp_r zq_0 rfl
theorem p_0_362 : zP1 0 362 = some (.if_icmp .eq 1783, 0, 0, 0) := zp_l zq_0 rfl
theorem p_0_365 : zP1 0 365 = some (.iconst 0, 0, 0, 0) := zp_l zq_0 rfl
theorem p_0_366 : zP1 0 366 = some (.ireturn, 0, 0, 0) := zp_l zq_0 rfl
theorem p_0_367 : zP1 0 367 = some (.aload_n 1, 0, 0, 0) := zp_l zq_0 rfl
theorem p_0_368 : zP1 0 368 = some (.aload_n 0, 0, 0, 0) := zp_l zq_0 rfl
theorem p_0_369 : zP1 0 369 = some (.iload_n 3, 0, 0, 0) := zp_l zq_0 rfl
theorem p_0_370 : zP1 0 370 = some (.iconst 1, 0, 0, 0) := zp_l zq_0 rfl
theorem p_0_371 : zP1 0 371 = some (.iadd, 0, 0, 0) := zp_l zq_0 rfl
theorem p_0_372 : zP1 0 372 = some (.iaload, 0, 0, 0) := zp_l zq_0 rfl
theorem p_0_373 : zP1 0 373 = some (.aload_n 0, 0, 0, 0) := zp_l zq_0 rfl
theorem p_0_374 : zP1 0 374 = some (.iload_n 3, 0, 0, 0) := zp_l zq_0 rfl
theorem p_0_375 : zP1 0 375 = some (.iconst 2, 0, 0, 0) := zp_l zq_0 rfl
theorem p_0_376 : zP1 0 376 = some (.iadd, 0, 0, 0) := zp_l zq_0 rfl
theorem p_0_377 : zP1 0 377 = some (.iaload, 0, 0, 0) := zp_l zq_0 rfl
theorem p_0_378 : zP1 0 378 = some (.invokevirtual 28, 142, 2, 10) := zp_r zq_0 rfl
theorem p_0_381 : zP1 0 381 = some (.aload_n 2, 0, 0, 0) := zp_l zq_0 rfl
theorem p_0_382 : zP1 0 382 = some (.aload_n 0, 0, 0, 0) := zp_l zq_0 rfl
theorem p_0_383 : zP1 0 383 = some (.iload_n 3, 0, 0, 0) := zp_l zq_0 rfl
theorem p_0_384 : zP1 0 384 = some (.iconst 1, 0, 0, 0) := zp_l zq_0 rfl
theorem p_0_385 : zP1 0 385 = some (.iadd, 0, 0, 0) := zp_l zq_0 rfl
theorem p_0_386 : zP1 0 386 = some (.iaload, 0, 0, 0) := zp_l zq_0 rfl
theorem p_0_387 : zP1 0 387 = some (.aload_n 0, 0, 0, 0) := zp_l zq_0 rfl
theorem p_0_388 : zP1 0 388 = some (.iload_n 3, 0, 0, 0) := zp_l zq_0 rfl
theorem p_0_389 : zP1 0 389 = some (.iconst 2, 0, 0, 0) := zp_l zq_0 rfl
theorem p_0_390 : zP1 0 390 = some (.iadd, 0, 0, 0) := zp_l zq_0 rfl
theorem p_0_391 : zP1 0 391 = some (.iaload, 0, 0, 0) := zp_l zq_0 rfl
theorem p_0_392 : zP1 0 392 = some (.invokevirtual 31, 214, 2, 11) := zp_r zq_0 rfl
theorem p_0_395 : zP1 0 395 = some (.if_icmp .eq 1750, 0, 0, 0) := zp_l zq_0 rfl
theorem p_0_398 : zP1 0 398 = some (.iconst 0, 0, 0, 0) := zp_l zq_0 rfl
theorem p_0_399 : zP1 0 399 = some (.ireturn, 0, 0, 0) := zp_l zq_0 rfl
theorem p_0_400 : zP1 0 400 = some (.aload_n 1, 0, 0, 0) := zp_l zq_0 rfl
theorem p_0_401 : zP1 0 401 = some (.aload_n 0, 0, 0, 0) := zp_l zq_0 rfl
theorem p_0_402 : zP1 0 402 = some (.iload_n 3, 0, 0, 0) := zp_l zq_0 rfl
theorem p_0_403 : zP1 0 403 = some (.iconst 1, 0, 0, 0) := zp_l zq_0 rfl
theorem p_0_404 : zP1 0 404 = some (.iadd, 0, 0, 0) := zp_l zq_0 rfl
theorem p_0_405 : zP1 0 405 = some (.iaload, 0, 0, 0) := zp_l zq_0 rfl
theorem p_0_406 : zP1 0 406 = some (.aload_n 0, 0, 0, 0) := zp_l zq_0 rfl
theorem p_0_407 : zP1 0 407 = some (.iload_n 3, 0, 0, 0) := zp_l zq_0 rfl
theorem p_0_408 : zP1 0 408 = some (.iconst 2, 0, 0, 0) := zp_l zq_0 rfl
theorem p_0_409 : zP1 0 409 = some (.iadd, 0, 0, 0) := zp_l zq_0 rfl
theorem p_0_410 : zP1 0 410 = some (.iaload, 0, 0, 0) := zp_l zq_0 rfl
theorem p_0_411 : zP1 0 411 = some (.invokevirtual 32, 143, 2, 10) := zp_r zq_0 rfl
theorem p_0_414 : zP1 0 414 = some (.aload_n 2, 0, 0, 0) := zp_l zq_0 rfl
theorem p_0_415 : zP1 0 415 = some (.aload_n 0, 0, 0, 0) := zp_l zq_0 rfl
theorem p_0_416 : zP1 0 416 = some (.iload_n 3, 0, 0, 0) := zp_l zq_0 rfl
theorem p_0_417 : zP1 0 417 = some (.iconst 1, 0, 0, 0) := zp_l zq_0 rfl
theorem p_0_418 : zP1 0 418 = some (.iadd, 0, 0, 0) := zp_l zq_0 rfl
theorem p_0_419 : zP1 0 419 = some (.iaload, 0, 0, 0) := zp_l zq_0 rfl
theorem p_0_420 : zP1 0 420 = some (.aload_n 0, 0, 0, 0) := zp_l zq_0 rfl
theorem p_0_421 : zP1 0 421 = some (.iload_n 3, 0, 0, 0) := zp_l zq_0 rfl
theorem p_0_422 : zP1 0 422 = some (.iconst 2, 0, 0, 0) := zp_l zq_0 rfl
theorem p_0_423 : zP1 0 423 = some (.iadd, 0, 0, 0) := zp_l zq_0 rfl
theorem p_0_424 : zP1 0 424 = some (.iaload, 0, 0, 0) := zp_l zq_0 rfl
theorem p_0_425 : zP1 0 425 = some (.invokevirtual 35, 215, 2, 11) := zp_r zq_0 rfl
theorem p_0_428 : zP1 0 428 = some (.if_icmp .eq 1717, 0, 0, 0) := zp_l zq_0 rfl
theorem p_0_431 : zP1 0 431 = some (.iconst 0, 0, 0, 0) := zp_l zq_0 rfl
theorem p_0_432 : zP1 0 432 = some (.ireturn, 0, 0, 0) := zp_l zq_0 rfl
theorem p_0_433 : zP1 0 433 = some (.aload_n 1, 0, 0, 0) := zp_l zq_0 rfl
theorem p_0_434 : zP1 0 434 = some (.aload_n 0, 0, 0, 0) := zp_l zq_0 rfl
theorem p_0_435 : zP1 0 435 = some (.iload_n 3, 0, 0, 0) := zp_l zq_0 rfl
theorem p_0_436 : zP1 0 436 = some (.iconst 1, 0, 0, 0) := zp_l zq_0 rfl
theorem p_0_437 : zP1 0 437 = some (.iadd, 0, 0, 0) := zp_l zq_0 rfl
theorem p_0_438 : zP1 0 438 = some (.iaload, 0, 0, 0) := zp_l zq_0 rfl
theorem p_0_439 : zP1 0 439 = some (.aload_n 0, 0, 0, 0) := zp_l zq_0 rfl
theorem p_0_440 : zP1 0 440 = some (.iload_n 3, 0, 0, 0) := zp_l zq_0 rfl
theorem p_0_441 : zP1 0 441 = some (.iconst 2, 0, 0, 0) := zp_l zq_0 rfl
theorem p_0_442 : zP1 0 442 = some (.iadd, 0, 0, 0) := zp_l zq_0 rfl
theorem p_0_443 : zP1 0 443 = some (.iaload, 0, 0, 0) := zp_l zq_0 rfl
theorem p_0_444 : zP1 0 444 = some (.invokevirtual 36, 144, 2, 10) := zp_r zq_0 rfl
theorem p_0_447 : zP1 0 447 = some (.aload_n 2, 0, 0, 0) := zp_l zq_0 rfl
theorem p_0_448 : zP1 0 448 = some (.aload_n 0, 0, 0, 0) := zp_l zq_0 rfl
theorem p_0_449 : zP1 0 449 = some (.iload_n 3, 0, 0, 0) := zp_l zq_0 rfl
theorem p_0_450 : zP1 0 450 = some (.iconst 1, 0, 0, 0) := zp_l zq_0 rfl
theorem p_0_451 : zP1 0 451 = some (.iadd, 0, 0, 0) := zp_l zq_0 rfl
theorem p_0_452 : zP1 0 452 = some (.iaload, 0, 0, 0) := zp_l zq_0 rfl
theorem p_0_453 : zP1 0 453 = some (.aload_n 0, 0, 0, 0) := zp_l zq_0 rfl
theorem p_0_454 : zP1 0 454 = some (.iload_n 3, 0, 0, 0) := zp_l zq_0 rfl
theorem p_0_455 : zP1 0 455 = some (.iconst 2, 0, 0, 0) := zp_l zq_0 rfl
theorem p_0_456 : zP1 0 456 = some (.iadd, 0, 0, 0) := zp_l zq_0 rfl
theorem p_0_457 : zP1 0 457 = some (.iaload, 0, 0, 0) := zp_l zq_0 rfl
theorem p_0_458 : zP1 0 458 = some (.invokevirtual 39, 216, 2, 11) := zp_r zq_0 rfl
theorem p_0_461 : zP1 0 461 = some (.if_icmp .eq 1684, 0, 0, 0) := zp_l zq_0 rfl
theorem p_0_464 : zP1 0 464 = some (.iconst 0, 0, 0, 0) := zp_l zq_0 rfl
theorem p_0_465 : zP1 0 465 = some (.ireturn, 0, 0, 0) := zp_l zq_0 rfl
theorem p_0_466 : zP1 0 466 = some (.aload_n 1, 0, 0, 0) := zp_l zq_0 rfl
theorem p_0_467 : zP1 0 467 = some (.aload_n 0, 0, 0, 0) := zp_l zq_0 rfl
theorem p_0_468 : zP1 0 468 = some (.iload_n 3, 0, 0, 0) := zp_l zq_0 rfl
theorem p_0_469 : zP1 0 469 = some (.iconst 1, 0, 0, 0) := zp_l zq_0 rfl
theorem p_0_470 : zP1 0 470 = some (.iadd, 0, 0, 0) := zp_l zq_0 rfl
theorem p_0_471 : zP1 0 471 = some (.iaload, 0, 0, 0) := zp_l zq_0 rfl
theorem p_0_472 : zP1 0 472 = some (.aload_n 0, 0, 0, 0) := zp_l zq_0 rfl
theorem p_0_473 : zP1 0 473 = some (.iload_n 3, 0, 0, 0) := zp_l zq_0 rfl
theorem p_0_474 : zP1 0 474 = some (.iconst 2, 0, 0, 0) := zp_l zq_0 rfl
theorem p_0_475 : zP1 0 475 = some (.iadd, 0, 0, 0) := zp_l zq_0 rfl
theorem p_0_476 : zP1 0 476 = some (.iaload, 0, 0, 0) := zp_l zq_0 rfl
theorem p_0_477 : zP1 0 477 = some (.invokevirtual 40, 145, 2, 10) := zp_r zq_0 rfl
theorem p_0_480 : zP1 0 480 = some (.aload_n 2, 0, 0, 0) := zp_l zq_0 rfl
theorem p_0_481 : zP1 0 481 = some (.aload_n 0, 0, 0, 0) := zp_l zq_0 rfl
theorem p_0_482 : zP1 0 482 = some (.iload_n 3, 0, 0, 0) := zp_l zq_0 rfl
theorem p_0_483 : zP1 0 483 = some (.iconst 1, 0, 0, 0) := zp_l zq_0 rfl
theorem p_0_484 : zP1 0 484 = some (.iadd, 0, 0, 0) := zp_l zq_0 rfl
theorem p_0_485 : zP1 0 485 = some (.iaload, 0, 0, 0) := zp_l zq_0 rfl
theorem p_0_486 : zP1 0 486 = some (.aload_n 0, 0, 0, 0) := zp_l zq_0 rfl
theorem p_0_487 : zP1 0 487 = some (.iload_n 3, 0, 0, 0) := zp_l zq_0 rfl
theorem p_0_488 : zP1 0 488 = some (.iconst 2, 0, 0, 0) := zp_l zq_0 rfl
theorem p_0_489 : zP1 0 489 = some (.iadd, 0, 0, 0) := zp_l zq_0 rfl
theorem p_0_490 : zP1 0 490 = some (.iaload, 0, 0, 0) := zp_l zq_0 rfl
theorem p_0_491 : zP1 0 491 = some (.invokevirtual 43, 217, 2, 11) := zp_r zq_0 rfl
theorem p_0_494 : zP1 0 494 = some (.if_icmp .eq 1651, 0, 0, 0) := zp_l zq_0 rfl
theorem p_0_497 : zP1 0 497 = some (.iconst 0, 0, 0, 0) := zp_l zq_0 rfl
theorem p_0_498 : zP1 0 498 = some (.ireturn, 0, 0, 0) := zp_l zq_0 rfl
theorem p_0_499 : zP1 0 499 = some (.aload_n 1, 0, 0, 0) := zp_l zq_0 rfl
theorem p_0_500 : zP1 0 500 = some (.aload_n 0, 0, 0, 0) := zp_l zq_0 rfl
theorem p_0_501 : zP1 0 501 = some (.iload_n 3, 0, 0, 0) := zp_l zq_0 rfl
theorem p_0_502 : zP1 0 502 = some (.iconst 1, 0, 0, 0) := zp_l zq_0 rfl
theorem p_0_503 : zP1 0 503 = some (.iadd, 0, 0, 0) := zp_l zq_0 rfl
theorem p_0_504 : zP1 0 504 = some (.iaload, 0, 0, 0) := zp_l zq_0 rfl
theorem p_0_505 : zP1 0 505 = some (.aload_n 0, 0, 0, 0) := zp_l zq_0 rfl
theorem p_0_506 : zP1 0 506 = some (.iload_n 3, 0, 0, 0) := zp_l zq_0 rfl
theorem p_0_507 : zP1 0 507 = some (.iconst 2, 0, 0, 0) := zp_l zq_0 rfl
theorem p_0_508 : zP1 0 508 = some (.iadd, 0, 0, 0) := zp_l zq_0 rfl
theorem p_0_509 : zP1 0 509 = some (.iaload, 0, 0, 0) := zp_l zq_0 rfl
theorem p_0_510 : zP1 0 510 = some (.invokevirtual 44, 146, 2, 10) := zp_r zq_0 rfl
theorem p_0_513 : zP1 0 513 = some (.aload_n 2, 0, 0, 0) := zp_l zq_0 rfl
theorem p_0_514 : zP1 0 514 = some (.aload_n 0, 0, 0, 0) := zp_l zq_0 rfl
theorem p_0_515 : zP1 0 515 = some (.iload_n 3, 0, 0, 0) := zp_l zq_0 rfl
theorem p_0_516 : zP1 0 516 = some (.iconst 1, 0, 0, 0) := zp_l zq_0 rfl
theorem p_0_517 : zP1 0 517 = some (.iadd, 0, 0, 0) := zp_l zq_0 rfl
theorem p_0_518 : zP1 0 518 = some (.iaload, 0, 0, 0) := zp_l zq_0 rfl
theorem p_0_519 : zP1 0 519 = some (.aload_n 0, 0, 0, 0) := zp_l zq_0 rfl
theorem p_0_520 : zP1 0 520 = some (.iload_n 3, 0, 0, 0) := zp_l zq_0 rfl
theorem p_0_521 : zP1 0 521 = some (.iconst 2, 0, 0, 0) := zp_l zq_0 rfl
theorem p_0_522 : zP1 0 522 = some (.iadd, 0, 0, 0) := zp_l zq_0 rfl
theorem p_0_523 : zP1 0 523 = some (.iaload, 0, 0, 0) := zp_l zq_0 rfl
theorem p_0_524 : zP1 0 524 = some (.invokevirtual 47, 224, 2, 11) := zp_r zq_0 rfl
theorem p_0_527 : zP1 0 527 = some (.if_icmp .eq 1618, 0, 0, 0) := zp_l zq_0 rfl
theorem p_0_530 : zP1 0 530 = some (.iconst 0, 0, 0, 0) := zp_l zq_0 rfl
theorem p_0_531 : zP1 0 531 = some (.ireturn, 0, 0, 0) := zp_l zq_0 rfl
theorem p_0_532 : zP1 0 532 = some (.aload_n 1, 0, 0, 0) := zp_l zq_0 rfl
theorem p_0_533 : zP1 0 533 = some (.aload_n 0, 0, 0, 0) := zp_l zq_0 rfl
theorem p_0_534 : zP1 0 534 = some (.iload_n 3, 0, 0, 0) := zp_l zq_0 rfl
theorem p_0_535 : zP1 0 535 = some (.iconst 1, 0, 0, 0) := zp_l zq_0 rfl
theorem p_0_536 : zP1 0 536 = some (.iadd, 0, 0, 0) := zp_l zq_0 rfl
theorem p_0_537 : zP1 0 537 = some (.iaload, 0, 0, 0) := zp_l zq_0 rfl
theorem p_0_538 : zP1 0 538 = some (.aload_n 0, 0, 0, 0) := zp_l zq_0 rfl
theorem p_0_539 : zP1 0 539 = some (.iload_n 3, 0, 0, 0) := zp_l zq_0 rfl
theorem p_0_540 : zP1 0 540 = some (.iconst 2, 0, 0, 0) := zp_l zq_0 rfl
theorem p_0_541 : zP1 0 541 = some (.iadd, 0, 0, 0) := zp_l zq_0 rfl
theorem p_0_542 : zP1 0 542 = some (.iaload, 0, 0, 0) := zp_l zq_0 rfl
theorem p_0_543 : zP1 0 543 = some (.invokevirtual 48, 147, 2, 10) := zp_r zq_0 rfl
theorem p_0_546 : zP1 0 546 = some (.aload_n 2, 0, 0, 0) := zp_l zq_0 rfl
theorem p_0_547 : zP1 0 547 = some (.aload_n 0, 0, 0, 0) := zp_l zq_0 rfl
theorem p_0_548 : zP1 0 548 = some (.iload_n 3, 0, 0, 0) := zp_l zq_0 rfl
theorem p_0_549 : zP1 0 549 = some (.iconst 1, 0, 0, 0) := zp_l zq_0 rfl
theorem p_0_550 : zP1 0 550 = some (.iadd, 0, 0, 0) := zp_l zq_0 rfl
theorem p_0_551 : zP1 0 551 = some (.iaload, 0, 0, 0) := zp_l zq_0 rfl
theorem p_0_552 : zP1 0 552 = some (.aload_n 0, 0, 0, 0) := zp_l zq_0 rfl
theorem p_0_553 : zP1 0 553 = some (.iload_n 3, 0, 0, 0) := zp_l zq_0 rfl
theorem p_0_554 : zP1 0 554 = some (.iconst 2, 0, 0, 0) := zp_l zq_0 rfl
theorem p_0_555 : zP1 0 555 = some (.iadd, 0, 0, 0) := zp_l zq_0 rfl
theorem p_0_556 : zP1 0 556 = some (.iaload, 0, 0, 0) := zp_l zq_0 rfl
theorem p_0_557 : zP1 0 557 = some (.invokevirtual 51, 226, 2, 11) := zp_r zq_0 rfl
theorem p_0_560 : zP1 0 560 = some (.if_icmp .eq 1585, 0, 0, 0) := zp_l zq_0 rfl
theorem p_0_563 : zP1 0 563 = some (.iconst 0, 0, 0, 0) := zp_l zq_0 rfl
theorem p_0_564 : zP1 0 564 = some (.ireturn, 0, 0, 0) := zp_l zq_0 rfl
theorem p_0_565 : zP1 0 565 = some (.aload_n 1, 0, 0, 0) := zp_l zq_0 rfl
theorem p_0_566 : zP1 0 566 = some (.aload_n 0, 0, 0, 0) := zp_l zq_0 rfl
theorem p_0_567 : zP1 0 567 = some (.iload_n 3, 0, 0, 0) := zp_l zq_0 rfl
theorem p_0_568 : zP1 0 568 = some (.iconst 1, 0, 0, 0) := zp_l zq_0 rfl
theorem p_0_569 : zP1 0 569 = some (.iadd, 0, 0, 0) := zp_l zq_0 rfl
theorem p_0_570 : zP1 0 570 = some (.iaload, 0, 0, 0) := zp_l zq_0 rfl
theorem p_0_571 : zP1 0 571 = some (.i2l, 0, 0, 0) := zp_l zq_0 rfl
theorem p_0_572 : zP1 0 572 = some (.bipush 32, 0, 0, 0) := zp_l zq_0 rfl
theorem p_0_574 : zP1 0 574 = some (.lshl, 0, 0, 0) := zp_l zq_0 rfl
theorem p_0_575 : zP1 0 575 = some (.aload_n 0, 0, 0, 0) := zp_l zq_0 rfl
theorem p_0_576 : zP1 0 576 = some (.iload_n 3, 0, 0, 0) := zp_l zq_0 rfl
theorem p_0_577 : zP1 0 577 = some (.iconst 2, 0, 0, 0) := zp_l zq_0 rfl
theorem p_0_578 : zP1 0 578 = some (.iadd, 0, 0, 0) := zp_l zq_0 rfl
theorem p_0_579 : zP1 0 579 = some (.iaload, 0, 0, 0) := zp_l zq_0 rfl
theorem p_0_580 : zP1 0 580 = some (.i2l, 0, 0, 0) := zp_l zq_0 rfl
theorem p_0_581 : zP1 0 581 = some (.ldc2_w 52, 0, 0, 4294967295) := zp_r zq_0 rfl
theorem p_0_584 : zP1 0 584 = some (.land, 0, 0, 0) := zp_l zq_0 rfl
theorem p_0_585 : zP1 0 585 = some (.lor, 0, 0, 0) := zp_l zq_0 rfl
theorem p_0_586 : zP1 0 586 = some (.aload_n 0, 0, 0, 0) := zp_l zq_0 rfl
theorem p_0_587 : zP1 0 587 = some (.iload_n 3, 0, 0, 0) := zp_l zq_0 rfl
theorem p_0_588 : zP1 0 588 = some (.iconst 3, 0, 0, 0) := zp_l zq_0 rfl
theorem p_0_589 : zP1 0 589 = some (.iadd, 0, 0, 0) := zp_l zq_0 rfl
theorem p_0_590 : zP1 0 590 = some (.iaload, 0, 0, 0) := zp_l zq_0 rfl
theorem p_0_591 : zP1 0 591 = some (.invokevirtual 54, 148, 2, 10) := zp_r zq_0 rfl
theorem p_0_594 : zP1 0 594 = some (.aload_n 2, 0, 0, 0) := zp_l zq_0 rfl
theorem p_0_595 : zP1 0 595 = some (.aload_n 0, 0, 0, 0) := zp_l zq_0 rfl
theorem p_0_596 : zP1 0 596 = some (.iload_n 3, 0, 0, 0) := zp_l zq_0 rfl
theorem p_0_597 : zP1 0 597 = some (.iconst 1, 0, 0, 0) := zp_l zq_0 rfl
theorem p_0_598 : zP1 0 598 = some (.iadd, 0, 0, 0) := zp_l zq_0 rfl
theorem p_0_599 : zP1 0 599 = some (.iaload, 0, 0, 0) := zp_l zq_0 rfl
theorem p_0_600 : zP1 0 600 = some (.i2l, 0, 0, 0) := zp_l zq_0 rfl
theorem p_0_601 : zP1 0 601 = some (.bipush 32, 0, 0, 0) := zp_l zq_0 rfl
theorem p_0_603 : zP1 0 603 = some (.lshl, 0, 0, 0) := zp_l zq_0 rfl
theorem p_0_604 : zP1 0 604 = some (.aload_n 0, 0, 0, 0) := zp_l zq_0 rfl
theorem p_0_605 : zP1 0 605 = some (.iload_n 3, 0, 0, 0) := zp_l zq_0 rfl
theorem p_0_606 : zP1 0 606 = some (.iconst 2, 0, 0, 0) := zp_l zq_0 rfl
theorem p_0_607 : zP1 0 607 = some (.iadd, 0, 0, 0) := zp_l zq_0 rfl
theorem p_0_608 : zP1 0 608 = some (.iaload, 0, 0, 0) := zp_l zq_0 rfl
theorem p_0_609 : zP1 0 609 = some (.i2l, 0, 0, 0) := zp_l zq_0 rfl
theorem p_0_610 : zP1 0 610 = some (.ldc2_w 52, 0, 0, 4294967295) := zp_r zq_0 rfl
theorem p_0_613 : zP1 0 613 = some (.land, 0, 0, 0) := zp_l zq_0 rfl
theorem p_0_614 : zP1 0 614 = some (.lor, 0, 0, 0) := zp_l zq_0 rfl
theorem p_0_615 : zP1 0 615 = some (.aload_n 0, 0, 0, 0) := zp_l zq_0 rfl
theorem p_0_616 : zP1 0 616 = some (.iload_n 3, 0, 0, 0) := zp_l zq_0 rfl
theorem p_0_617 : zP1 0 617 = some (.iconst 3, 0, 0, 0) := zp_l zq_0 rfl
theorem p_0_618 : zP1 0 618 = some (.iadd, 0, 0, 0) := zp_l zq_0 rfl
theorem p_0_619 : zP1 0 619 = some (.iaload, 0, 0, 0) := zp_l zq_0 rfl
theorem p_0_620 : zP1 0 620 = some (.invokevirtual 58, 227, 2, 11) := zp_r zq_0 rfl
theorem p_0_623 : zP1 0 623 = some (.if_icmp .eq 1522, 0, 0, 0) := zp_l zq_0 rfl
theorem p_0_626 : zP1 0 626 = some (.iconst 0, 0, 0, 0) := zp_l zq_0 rfl
theorem p_0_627 : zP1 0 627 = some (.ireturn, 0, 0, 0) := zp_l zq_0 rfl
theorem p_0_628 : zP1 0 628 = some (.aload_n 1, 0, 0, 0) := zp_l zq_0 rfl
theorem p_0_629 : zP1 0 629 = some (.aload_n 0, 0, 0, 0) := zp_l zq_0 rfl
theorem p_0_630 : zP1 0 630 = some (.iload_n 3, 0, 0, 0) := zp_l zq_0 rfl
theorem p_0_631 : zP1 0 631 = some (.iconst 1, 0, 0, 0) := zp_l zq_0 rfl
theorem p_0_632 : zP1 0 632 = some (.iadd, 0, 0, 0) := zp_l zq_0 rfl
theorem p_0_633 : zP1 0 633 = some (.iaload, 0, 0, 0) := zp_l zq_0 rfl
theorem p_0_634 : zP1 0 634 = some (.invokevirtual 59, 149, 1, 10) := zp_r zq_0 rfl
theorem p_0_637 : zP1 0 637 = some (.aload_n 2, 0, 0, 0) := zp_l zq_0 rfl
theorem p_0_638 : zP1 0 638 = some (.aload_n 0, 0, 0, 0) := zp_l zq_0 rfl
theorem p_0_639 : zP1 0 639 = some (.iload_n 3, 0, 0, 0) := zp_l zq_0 rfl
theorem p_0_640 : zP1 0 640 = some (.iconst 1, 0, 0, 0) := zp_l zq_0 rfl
theorem p_0_641 : zP1 0 641 = some (.iadd, 0, 0, 0) := zp_l zq_0 rfl
theorem p_0_642 : zP1 0 642 = some (.iaload, 0, 0, 0) := zp_l zq_0 rfl
theorem p_0_643 : zP1 0 643 = some (.invokevirtual 62, 242, 1, 11) := zp_r zq_0 rfl
theorem p_0_646 : zP1 0 646 = some (.if_icmp .eq 1499, 0, 0, 0) := zp_l zq_0 rfl
theorem p_0_649 : zP1 0 649 = some (.iconst 0, 0, 0, 0) := zp_l zq_0 rfl
theorem p_0_650 : zP1 0 650 = some (.ireturn, 0, 0, 0) := zp_l zq_0 rfl
theorem p_0_651 : zP1 0 651 = some (.aload_n 1, 0, 0, 0) := zp_l zq_0 rfl
theorem p_0_652 : zP1 0 652 = some (.aload_n 0, 0, 0, 0) := zp_l zq_0 rfl
theorem p_0_653 : zP1 0 653 = some (.iload_n 3, 0, 0, 0) := zp_l zq_0 rfl
theorem p_0_654 : zP1 0 654 = some (.iconst 1, 0, 0, 0) := zp_l zq_0 rfl
theorem p_0_655 : zP1 0 655 = some (.iadd, 0, 0, 0) := zp_l zq_0 rfl
theorem p_0_656 : zP1 0 656 = some (.iaload, 0, 0, 0) := zp_l zq_0 rfl
theorem p_0_657 : zP1 0 657 = some (.invokevirtual 63, 150, 1, 10) := zp_r zq_0 rfl
theorem p_0_660 : zP1 0 660 = some (.aload_n 2, 0, 0, 0) := zp_l zq_0 rfl
theorem p_0_661 : zP1 0 661 = some (.aload_n 0, 0, 0, 0) := zp_l zq_0 rfl
theorem p_0_662 : zP1 0 662 = some (.iload_n 3, 0, 0, 0) := zp_l zq_0 rfl
theorem p_0_663 : zP1 0 663 = some (.iconst 1, 0, 0, 0) := zp_l zq_0 rfl
theorem p_0_664 : zP1 0 664 = some (.iadd, 0, 0, 0) := zp_l zq_0 rfl
theorem p_0_665 : zP1 0 665 = some (.iaload, 0, 0, 0) := zp_l zq_0 rfl
theorem p_0_666 : zP1 0 666 = some (.invokevirtual 66, 244, 1, 11) := zp_r zq_0 rfl
theorem p_0_669 : zP1 0 669 = some (.if_icmp .eq 1476, 0, 0, 0) := zp_l zq_0 rfl
theorem p_0_672 : zP1 0 672 = some (.iconst 0, 0, 0, 0) := zp_l zq_0 rfl
theorem p_0_673 : zP1 0 673 = some (.ireturn, 0, 0, 0) := zp_l zq_0 rfl
theorem p_0_674 : zP1 0 674 = some (.aload_n 1, 0, 0, 0) := zp_l zq_0 rfl
theorem p_0_675 : zP1 0 675 = some (.aload_n 0, 0, 0, 0) := zp_l zq_0 rfl
theorem p_0_676 : zP1 0 676 = some (.iload_n 3, 0, 0, 0) := zp_l zq_0 rfl
theorem p_0_677 : zP1 0 677 = some (.iconst 1, 0, 0, 0) := zp_l zq_0 rfl
theorem p_0_678 : zP1 0 678 = some (.iadd, 0, 0, 0) := zp_l zq_0 rfl
theorem p_0_679 : zP1 0 679 = some (.iaload, 0, 0, 0) := zp_l zq_0 rfl
theorem p_0_680 : zP1 0 680 = some (.aload_n 0, 0, 0, 0) := zp_l zq_0 rfl
theorem p_0_681 : zP1 0 681 = some (.iload_n 3, 0, 0, 0) := zp_l zq_0 rfl
theorem p_0_682 : zP1 0 682 = some (.iconst 2, 0, 0, 0) := zp_l zq_0 rfl
theorem p_0_683 : zP1 0 683 = some (.iadd, 0, 0, 0) := zp_l zq_0 rfl
theorem p_0_684 : zP1 0 684 = some (.iaload, 0, 0, 0) := zp_l zq_0 rfl
theorem p_0_685 : zP1 0 685 = some (.invokevirtual 67, 151, 2, 10) := zp_r zq_0 rfl
theorem p_0_688 : zP1 0 688 = some (.aload_n 2, 0, 0, 0) := zp_l zq_0 rfl
theorem p_0_689 : zP1 0 689 = some (.aload_n 0, 0, 0, 0) := zp_l zq_0 rfl
theorem p_0_690 : zP1 0 690 = some (.iload_n 3, 0, 0, 0) := zp_l zq_0 rfl
theorem p_0_691 : zP1 0 691 = some (.iconst 1, 0, 0, 0) := zp_l zq_0 rfl
theorem p_0_692 : zP1 0 692 = some (.iadd, 0, 0, 0) := zp_l zq_0 rfl
theorem p_0_693 : zP1 0 693 = some (.iaload, 0, 0, 0) := zp_l zq_0 rfl
theorem p_0_694 : zP1 0 694 = some (.aload_n 0, 0, 0, 0) := zp_l zq_0 rfl
theorem p_0_695 : zP1 0 695 = some (.iload_n 3, 0, 0, 0) := zp_l zq_0 rfl
theorem p_0_696 : zP1 0 696 = some (.iconst 2, 0, 0, 0) := zp_l zq_0 rfl
theorem p_0_697 : zP1 0 697 = some (.iadd, 0, 0, 0) := zp_l zq_0 rfl
theorem p_0_698 : zP1 0 698 = some (.iaload, 0, 0, 0) := zp_l zq_0 rfl
theorem p_0_699 : zP1 0 699 = some (.invokevirtual 70, 245, 2, 11) := zp_r zq_0 rfl
theorem p_0_702 : zP1 0 702 = some (.if_icmp .eq 1443, 0, 0, 0) := zp_l zq_0 rfl
theorem p_0_705 : zP1 0 705 = some (.iconst 0, 0, 0, 0) := zp_l zq_0 rfl
theorem p_0_706 : zP1 0 706 = some (.ireturn, 0, 0, 0) := zp_l zq_0 rfl
theorem p_0_707 : zP1 0 707 = some (.aload_n 1, 0, 0, 0) := zp_l zq_0 rfl
theorem p_0_708 : zP1 0 708 = some (.aload_n 0, 0, 0, 0) := zp_l zq_0 rfl
theorem p_0_709 : zP1 0 709 = some (.iload_n 3, 0, 0, 0) := zp_l zq_0 rfl
theorem p_0_710 : zP1 0 710 = some (.iconst 1, 0, 0, 0) := zp_l zq_0 rfl
theorem p_0_711 : zP1 0 711 = some (.iadd, 0, 0, 0) := zp_l zq_0 rfl
theorem p_0_712 : zP1 0 712 = some (.iaload, 0, 0, 0) := zp_l zq_0 rfl
theorem p_0_713 : zP1 0 713 = some (.aload_n 0, 0, 0, 0) := zp_l zq_0 rfl
theorem p_0_714 : zP1 0 714 = some (.iload_n 3, 0, 0, 0) := zp_l zq_0 rfl
theorem p_0_715 : zP1 0 715 = some (.iconst 2, 0, 0, 0) := zp_l zq_0 rfl
theorem p_0_716 : zP1 0 716 = some (.iadd, 0, 0, 0) := zp_l zq_0 rfl
theorem p_0_717 : zP1 0 717 = some (.iaload, 0, 0, 0) := zp_l zq_0 rfl
theorem p_0_718 : zP1 0 718 = some (.invokevirtual 71, 152, 2, 10) := zp_r zq_0 rfl
theorem p_0_721 : zP1 0 721 = some (.aload_n 2, 0, 0, 0) := zp_l zq_0 rfl
theorem p_0_722 : zP1 0 722 = some (.aload_n 0, 0, 0, 0) := zp_l zq_0 rfl
theorem p_0_723 : zP1 0 723 = some (.iload_n 3, 0, 0, 0) := zp_l zq_0 rfl
theorem p_0_724 : zP1 0 724 = some (.iconst 1, 0, 0, 0) := zp_l zq_0 rfl
theorem p_0_725 : zP1 0 725 = some (.iadd, 0, 0, 0) := zp_l zq_0 rfl
theorem p_0_726 : zP1 0 726 = some (.iaload, 0, 0, 0) := zp_l zq_0 rfl
theorem p_0_727 : zP1 0 727 = some (.aload_n 0, 0, 0, 0) := zp_l zq_0 rfl
theorem p_0_728 : zP1 0 728 = some (.iload_n 3, 0, 0, 0) := zp_l zq_0 rfl
theorem p_0_729 : zP1 0 729 = some (.iconst 2, 0, 0, 0) := zp_l zq_0 rfl
theorem p_0_730 : zP1 0 730 = some (.iadd, 0, 0, 0) := zp_l zq_0 rfl
theorem p_0_731 : zP1 0 731 = some (.iaload, 0, 0, 0) := zp_l zq_0 rfl
theorem p_0_732 : zP1 0 732 = some (.invokevirtual 74, 222, 2, 11) := zp_r zq_0 rfl
theorem p_0_735 : zP1 0 735 = some (.if_icmp .eq 1410, 0, 0, 0) := zp_l zq_0 rfl
theorem p_0_738 : zP1 0 738 = some (.iconst 0, 0, 0, 0) := zp_l zq_0 rfl
theorem p_0_739 : zP1 0 739 = some (.ireturn, 0, 0, 0) := zp_l zq_0 rfl
theorem p_0_740 : zP1 0 740 = some (.aload_n 1, 0, 0, 0) := zp_l zq_0 rfl
theorem p_0_741 : zP1 0 741 = some (.aload_n 0, 0, 0, 0) := zp_l zq_0 rfl
theorem p_0_742 : zP1 0 742 = some (.iload_n 3, 0, 0, 0) := zp_l zq_0 rfl
theorem p_0_743 : zP1 0 743 = some (.iconst 1, 0, 0, 0) := zp_l zq_0 rfl
theorem p_0_744 : zP1 0 744 = some (.iadd, 0, 0, 0) := zp_l zq_0 rfl
theorem p_0_745 : zP1 0 745 = some (.iaload, 0, 0, 0) := zp_l zq_0 rfl
theorem p_0_746 : zP1 0 746 = some (.aload_n 0, 0, 0, 0) := zp_l zq_0 rfl
theorem p_0_747 : zP1 0 747 = some (.iload_n 3, 0, 0, 0) := zp_l zq_0 rfl
theorem p_0_748 : zP1 0 748 = some (.iconst 2, 0, 0, 0) := zp_l zq_0 rfl
theorem p_0_749 : zP1 0 749 = some (.iadd, 0, 0, 0) := zp_l zq_0 rfl
theorem p_0_750 : zP1 0 750 = some (.iaload, 0, 0, 0) := zp_l zq_0 rfl
theorem p_0_751 : zP1 0 751 = some (.aload_n 0, 0, 0, 0) := zp_l zq_0 rfl
theorem p_0_752 : zP1 0 752 = some (.iload_n 3, 0, 0, 0) := zp_l zq_0 rfl
theorem p_0_753 : zP1 0 753 = some (.iconst 3, 0, 0, 0) := zp_l zq_0 rfl
theorem p_0_754 : zP1 0 754 = some (.iadd, 0, 0, 0) := zp_l zq_0 rfl
theorem p_0_755 : zP1 0 755 = some (.iaload, 0, 0, 0) := zp_l zq_0 rfl
theorem p_0_756 : zP1 0 756 = some (.aload_n 0, 0, 0, 0) := zp_l zq_0 rfl
theorem p_0_757 : zP1 0 757 = some (.iload_n 3, 0, 0, 0) := zp_l zq_0 rfl
theorem p_0_758 : zP1 0 758 = some (.iconst 4, 0, 0, 0) := zp_l zq_0 rfl
theorem p_0_759 : zP1 0 759 = some (.iadd, 0, 0, 0) := zp_l zq_0 rfl
theorem p_0_760 : zP1 0 760 = some (.iaload, 0, 0, 0) := zp_l zq_0 rfl
theorem p_0_761 : zP1 0 761 = some (.aload_n 0, 0, 0, 0) := zp_l zq_0 rfl
theorem p_0_762 : zP1 0 762 = some (.iload_n 3, 0, 0, 0) := zp_l zq_0 rfl
theorem p_0_763 : zP1 0 763 = some (.iconst 5, 0, 0, 0) := zp_l zq_0 rfl
theorem p_0_764 : zP1 0 764 = some (.iadd, 0, 0, 0) := zp_l zq_0 rfl
theorem p_0_765 : zP1 0 765 = some (.iaload, 0, 0, 0) := zp_l zq_0 rfl
theorem p_0_766 : zP1 0 766 = some (.aload_n 0, 0, 0, 0) := zp_l zq_0 rfl
theorem p_0_767 : zP1 0 767 = some (.iload_n 3, 0, 0, 0) := zp_l zq_0 rfl
theorem p_0_768 : zP1 0 768 = some (.bipush 6, 0, 0, 0) := zp_l zq_0 rfl
theorem p_0_770 : zP1 0 770 = some (.iadd, 0, 0, 0) := zp_l zq_0 rfl
theorem p_0_771 : zP1 0 771 = some (.iaload, 0, 0, 0) := zp_l zq_0 rfl
theorem p_0_772 : zP1 0 772 = some (.invokevirtual 75, 153, 6, 10) := zp_r zq_0 rfl
theorem p_0_775 : zP1 0 775 = some (.aload_n 2, 0, 0, 0) := zp_l zq_0 rfl
theorem p_0_776 : zP1 0 776 = some (.aload_n 0, 0, 0, 0) := zp_l zq_0 rfl
theorem p_0_777 : zP1 0 777 = some (.iload_n 3, 0, 0, 0) := zp_l zq_0 rfl
theorem p_0_778 : zP1 0 778 = some (.iconst 1, 0, 0, 0) := zp_l zq_0 rfl
theorem p_0_779 : zP1 0 779 = some (.iadd, 0, 0, 0) := zp_l zq_0 rfl
theorem p_0_780 : zP1 0 780 = some (.iaload, 0, 0, 0) := zp_l zq_0 rfl
theorem p_0_781 : zP1 0 781 = some (.aload_n 0, 0, 0, 0) := zp_l zq_0 rfl
theorem p_0_782 : zP1 0 782 = some (.iload_n 3, 0, 0, 0) := zp_l zq_0 rfl
theorem p_0_783 : zP1 0 783 = some (.iconst 2, 0, 0, 0) := zp_l zq_0 rfl
theorem p_0_784 : zP1 0 784 = some (.iadd, 0, 0, 0) := zp_l zq_0 rfl
theorem p_0_785 : zP1 0 785 = some (.iaload, 0, 0, 0) := zp_l zq_0 rfl
theorem p_0_786 : zP1 0 786 = some (.aload_n 0, 0, 0, 0) := zp_l zq_0 rfl
theorem p_0_787 : zP1 0 787 = some (.iload_n 3, 0, 0, 0) := zp_l zq_0 rfl
theorem p_0_788 : zP1 0 788 = some (.iconst 3, 0, 0, 0) := zp_l zq_0 rfl
theorem p_0_789 : zP1 0 789 = some (.iadd, 0, 0, 0) := zp_l zq_0 rfl
theorem p_0_790 : zP1 0 790 = some (.iaload, 0, 0, 0) := zp_l zq_0 rfl
theorem p_0_791 : zP1 0 791 = some (.aload_n 0, 0, 0, 0) := zp_l zq_0 rfl
theorem p_0_792 : zP1 0 792 = some (.iload_n 3, 0, 0, 0) := zp_l zq_0 rfl
theorem p_0_793 : zP1 0 793 = some (.iconst 4, 0, 0, 0) := zp_l zq_0 rfl
theorem p_0_794 : zP1 0 794 = some (.iadd, 0, 0, 0) := zp_l zq_0 rfl
theorem p_0_795 : zP1 0 795 = some (.iaload, 0, 0, 0) := zp_l zq_0 rfl
theorem p_0_796 : zP1 0 796 = some (.aload_n 0, 0, 0, 0) := zp_l zq_0 rfl
theorem p_0_797 : zP1 0 797 = some (.iload_n 3, 0, 0, 0) := zp_l zq_0 rfl
theorem p_0_798 : zP1 0 798 = some (.iconst 5, 0, 0, 0) := zp_l zq_0 rfl
theorem p_0_799 : zP1 0 799 = some (.iadd, 0, 0, 0) := zp_l zq_0 rfl
theorem p_0_800 : zP1 0 800 = some (.iaload, 0, 0, 0) := zp_l zq_0 rfl
theorem p_0_801 : zP1 0 801 = some (.aload_n 0, 0, 0, 0) := zp_l zq_0 rfl
theorem p_0_802 : zP1 0 802 = some (.iload_n 3, 0, 0, 0) := zp_l zq_0 rfl
theorem p_0_803 : zP1 0 803 = some (.bipush 6, 0, 0, 0) := zp_l zq_0 rfl
theorem p_0_805 : zP1 0 805 = some (.iadd, 0, 0, 0) := zp_l zq_0 rfl
theorem p_0_806 : zP1 0 806 = some (.iaload, 0, 0, 0) := zp_l zq_0 rfl
theorem p_0_807 : zP1 0 807 = some (.invokevirtual 79, 246, 6, 11) := zp_r zq_0 rfl
theorem p_0_810 : zP1 0 810 = some (.if_icmp .eq 1335, 0, 0, 0) := zp_l zq_0 rfl
theorem p_0_813 : zP1 0 813 = some (.iconst 0, 0, 0, 0) := zp_l zq_0 rfl
theorem p_0_814 : zP1 0 814 = some (.ireturn, 0, 0, 0) := zp_l zq_0 rfl
theorem p_0_815 : zP1 0 815 = some (.aload_n 1, 0, 0, 0) := zp_l zq_0 rfl
theorem p_0_816 : zP1 0 816 = some (.aload_n 0, 0, 0, 0) := zp_l zq_0 rfl
theorem p_0_817 : zP1 0 817 = some (.iload_n 3, 0, 0, 0) := zp_l zq_0 rfl
theorem p_0_818 : zP1 0 818 = some (.iconst 1, 0, 0, 0) := zp_l zq_0 rfl
theorem p_0_819 : zP1 0 819 = some (.iadd, 0, 0, 0) := zp_l zq_0 rfl
theorem p_0_820 : zP1 0 820 = some (.iaload, 0, 0, 0) := zp_l zq_0 rfl
theorem p_0_821 : zP1 0 821 = some (.aload_n 0, 0, 0, 0) := zp_l zq_0 rfl
theorem p_0_822 : zP1 0 822 = some (.iload_n 3, 0, 0, 0) := zp_l zq_0 rfl
theorem p_0_823 : zP1 0 823 = some (.iconst 2, 0, 0, 0) := zp_l zq_0 rfl
theorem p_0_824 : zP1 0 824 = some (.iadd, 0, 0, 0) := zp_l zq_0 rfl
theorem p_0_825 : zP1 0 825 = some (.iaload, 0, 0, 0) := zp_l zq_0 rfl
theorem p_0_826 : zP1 0 826 = some (.aload_n 0, 0, 0, 0) := zp_l zq_0 rfl
theorem p_0_827 : zP1 0 827 = some (.iload_n 3, 0, 0, 0) := zp_l zq_0 rfl
theorem p_0_828 : zP1 0 828 = some (.iconst 3, 0, 0, 0) := zp_l zq_0 rfl
theorem p_0_829 : zP1 0 829 = some (.iadd, 0, 0, 0) := zp_l zq_0 rfl
theorem p_0_830 : zP1 0 830 = some (.iaload, 0, 0, 0) := zp_l zq_0 rfl
theorem p_0_831 : zP1 0 831 = some (.invokevirtual 80, 154, 3, 10) := zp_r zq_0 rfl
theorem p_0_834 : zP1 0 834 = some (.aload_n 2, 0, 0, 0) := zp_l zq_0 rfl
theorem p_0_835 : zP1 0 835 = some (.aload_n 0, 0, 0, 0) := zp_l zq_0 rfl
theorem p_0_836 : zP1 0 836 = some (.iload_n 3, 0, 0, 0) := zp_l zq_0 rfl
theorem p_0_837 : zP1 0 837 = some (.iconst 1, 0, 0, 0) := zp_l zq_0 rfl
theorem p_0_838 : zP1 0 838 = some (.iadd, 0, 0, 0) := zp_l zq_0 rfl
theorem p_0_839 : zP1 0 839 = some (.iaload, 0, 0, 0) := zp_l zq_0 rfl
theorem p_0_840 : zP1 0 840 = some (.aload_n 0, 0, 0, 0) := zp_l zq_0 rfl
theorem p_0_841 : zP1 0 841 = some (.iload_n 3, 0, 0, 0) := zp_l zq_0 rfl
theorem p_0_842 : zP1 0 842 = some (.iconst 2, 0, 0, 0) := zp_l zq_0 rfl
theorem p_0_843 : zP1 0 843 = some (.iadd, 0, 0, 0) := zp_l zq_0 rfl
theorem p_0_844 : zP1 0 844 = some (.iaload, 0, 0, 0) := zp_l zq_0 rfl
theorem p_0_845 : zP1 0 845 = some (.aload_n 0, 0, 0, 0) := zp_l zq_0 rfl
theorem p_0_846 : zP1 0 846 = some (.iload_n 3, 0, 0, 0) := zp_l zq_0 rfl
theorem p_0_847 : zP1 0 847 = some (.iconst 3, 0, 0, 0) := zp_l zq_0 rfl
theorem p_0_848 : zP1 0 848 = some (.iadd, 0, 0, 0) := zp_l zq_0 rfl
theorem p_0_849 : zP1 0 849 = some (.iaload, 0, 0, 0) := zp_l zq_0 rfl
theorem p_0_850 : zP1 0 850 = some (.invokevirtual 83, 255, 3, 11) := zp_r zq_0 rfl
theorem p_0_853 : zP1 0 853 = some (.if_icmp .eq 1292, 0, 0, 0) := zp_l zq_0 rfl
theorem p_0_856 : zP1 0 856 = some (.iconst 0, 0, 0, 0) := zp_l zq_0 rfl
theorem p_0_857 : zP1 0 857 = some (.ireturn, 0, 0, 0) := zp_l zq_0 rfl
theorem p_0_858 : zP1 0 858 = some (.aload_n 1, 0, 0, 0) := zp_l zq_0 rfl
theorem p_0_859 : zP1 0 859 = some (.aload_n 0, 0, 0, 0) := zp_l zq_0 rfl
theorem p_0_860 : zP1 0 860 = some (.iload_n 3, 0, 0, 0) := zp_l zq_0 rfl
theorem p_0_861 : zP1 0 861 = some (.iconst 1, 0, 0, 0) := zp_l zq_0 rfl
theorem p_0_862 : zP1 0 862 = some (.iadd, 0, 0, 0) := zp_l zq_0 rfl
theorem p_0_863 : zP1 0 863 = some (.iaload, 0, 0, 0) := zp_l zq_0 rfl
theorem p_0_864 : zP1 0 864 = some (.aload_n 0, 0, 0, 0) := zp_l zq_0 rfl
theorem p_0_865 : zP1 0 865 = some (.iload_n 3, 0, 0, 0) := zp_l zq_0 rfl
theorem p_0_866 : zP1 0 866 = some (.iconst 2, 0, 0, 0) := zp_l zq_0 rfl
theorem p_0_867 : zP1 0 867 = some (.iadd, 0, 0, 0) := zp_l zq_0 rfl
theorem p_0_868 : zP1 0 868 = some (.iaload, 0, 0, 0) := zp_l zq_0 rfl
theorem p_0_869 : zP1 0 869 = some (.aload_n 0, 0, 0, 0) := zp_l zq_0 rfl
theorem p_0_870 : zP1 0 870 = some (.iload_n 3, 0, 0, 0) := zp_l zq_0 rfl
theorem p_0_871 : zP1 0 871 = some (.iconst 3, 0, 0, 0) := zp_l zq_0 rfl
theorem p_0_872 : zP1 0 872 = some (.iadd, 0, 0, 0) := zp_l zq_0 rfl
theorem p_0_873 : zP1 0 873 = some (.iaload, 0, 0, 0) := zp_l zq_0 rfl
theorem p_0_874 : zP1 0 874 = some (.invokevirtual 84, 155, 3, 10) := zp_r zq_0 rfl
theorem p_0_877 : zP1 0 877 = some (.aload_n 2, 0, 0, 0) := zp_l zq_0 rfl
theorem p_0_878 : zP1 0 878 = some (.aload_n 0, 0, 0, 0) := zp_l zq_0 rfl
theorem p_0_879 : zP1 0 879 = some (.iload_n 3, 0, 0, 0) := zp_l zq_0 rfl
theorem p_0_880 : zP1 0 880 = some (.iconst 1, 0, 0, 0) := zp_l zq_0 rfl
theorem p_0_881 : zP1 0 881 = some (.iadd, 0, 0, 0) := zp_l zq_0 rfl
theorem p_0_882 : zP1 0 882 = some (.iaload, 0, 0, 0) := zp_l zq_0 rfl
theorem p_0_883 : zP1 0 883 = some (.aload_n 0, 0, 0, 0) := zp_l zq_0 rfl
theorem p_0_884 : zP1 0 884 = some (.iload_n 3, 0, 0, 0) := zp_l zq_0 rfl
theorem p_0_885 : zP1 0 885 = some (.iconst 2, 0, 0, 0) := zp_l zq_0 rfl
theorem p_0_886 : zP1 0 886 = some (.iadd, 0, 0, 0) := zp_l zq_0 rfl
theorem p_0_887 : zP1 0 887 = some (.iaload, 0, 0, 0) := zp_l zq_0 rfl
theorem p_0_888 : zP1 0 888 = some (.aload_n 0, 0, 0, 0) := zp_l zq_0 rfl
theorem p_0_889 : zP1 0 889 = some (.iload_n 3, 0, 0, 0) := zp_l zq_0 rfl
theorem p_0_890 : zP1 0 890 = some (.iconst 3, 0, 0, 0) := zp_l zq_0 rfl
theorem p_0_891 : zP1 0 891 = some (.iadd, 0, 0, 0) := zp_l zq_0 rfl
theorem p_0_892 : zP1 0 892 = some (.iaload, 0, 0, 0) := zp_l zq_0 rfl
theorem p_0_893 : zP1 0 893 = some (.invokevirtual 87, 256, 3, 11) := zp_r zq_0 rfl
theorem p_0_896 : zP1 0 896 = some (.if_icmp .eq 1249, 0, 0, 0) := zp_l zq_0 rfl
theorem p_0_899 : zP1 0 899 = some (.iconst 0, 0, 0, 0) := zp_l zq_0 rfl
theorem p_0_900 : zP1 0 900 = some (.ireturn, 0, 0, 0) := zp_l zq_0 rfl
theorem p_0_901 : zP1 0 901 = some (.aload_n 1, 0, 0, 0) := zp_l zq_0 rfl
theorem p_0_902 : zP1 0 902 = some (.aload_n 0, 0, 0, 0) := zp_l zq_0 rfl
theorem p_0_903 : zP1 0 903 = some (.iload_n 3, 0, 0, 0) := zp_l zq_0 rfl
theorem p_0_904 : zP1 0 904 = some (.iconst 1, 0, 0, 0) := zp_l zq_0 rfl
theorem p_0_905 : zP1 0 905 = some (.iadd, 0, 0, 0) := zp_l zq_0 rfl
theorem p_0_906 : zP1 0 906 = some (.iaload, 0, 0, 0) := zp_l zq_0 rfl
theorem p_0_907 : zP1 0 907 = some (.aload_n 0, 0, 0, 0) := zp_l zq_0 rfl
theorem p_0_908 : zP1 0 908 = some (.iload_n 3, 0, 0, 0) := zp_l zq_0 rfl
theorem p_0_909 : zP1 0 909 = some (.iconst 2, 0, 0, 0) := zp_l zq_0 rfl
theorem p_0_910 : zP1 0 910 = some (.iadd, 0, 0, 0) := zp_l zq_0 rfl
theorem p_0_911 : zP1 0 911 = some (.iaload, 0, 0, 0) := zp_l zq_0 rfl
theorem p_0_912 : zP1 0 912 = some (.aload_n 0, 0, 0, 0) := zp_l zq_0 rfl
theorem p_0_913 : zP1 0 913 = some (.iload_n 3, 0, 0, 0) := zp_l zq_0 rfl
theorem p_0_914 : zP1 0 914 = some (.iconst 3, 0, 0, 0) := zp_l zq_0 rfl
theorem p_0_915 : zP1 0 915 = some (.iadd, 0, 0, 0) := zp_l zq_0 rfl
theorem p_0_916 : zP1 0 916 = some (.iaload, 0, 0, 0) := zp_l zq_0 rfl
theorem p_0_917 : zP1 0 917 = some (.aload_n 0, 0, 0, 0) := zp_l zq_0 rfl
theorem p_0_918 : zP1 0 918 = some (.iload_n 3, 0, 0, 0) := zp_l zq_0 rfl
theorem p_0_919 : zP1 0 919 = some (.iconst 4, 0, 0, 0) := zp_l zq_0 rfl
theorem p_0_920 : zP1 0 920 = some (.iadd, 0, 0, 0) := zp_l zq_0 rfl
theorem p_0_921 : zP1 0 921 = some (.iaload, 0, 0, 0) := zp_l zq_0 rfl
theorem p_0_922 : zP1 0 922 = some (.invokevirtual 88, 156, 4, 10) := zp_r zq_0 rfl
theorem p_0_925 : zP1 0 925 = some (.aload_n 2, 0, 0, 0) := zp_l zq_0 rfl
theorem p_0_926 : zP1 0 926 = some (.aload_n 0, 0, 0, 0) := zp_l zq_0 rfl
theorem p_0_927 : zP1 0 927 = some (.iload_n 3, 0, 0, 0) := zp_l zq_0 rfl
theorem p_0_928 : zP1 0 928 = some (.iconst 1, 0, 0, 0) := zp_l zq_0 rfl
theorem p_0_929 : zP1 0 929 = some (.iadd, 0, 0, 0) := zp_l zq_0 rfl
theorem p_0_930 : zP1 0 930 = some (.iaload, 0, 0, 0) := zp_l zq_0 rfl
theorem p_0_931 : zP1 0 931 = some (.aload_n 0, 0, 0, 0) := zp_l zq_0 rfl
theorem p_0_932 : zP1 0 932 = some (.iload_n 3, 0, 0, 0) := zp_l zq_0 rfl
theorem p_0_933 : zP1 0 933 = some (.iconst 2, 0, 0, 0) := zp_l zq_0 rfl
theorem p_0_934 : zP1 0 934 = some (.iadd, 0, 0, 0) := zp_l zq_0 rfl
theorem p_0_935 : zP1 0 935 = some (.iaload, 0, 0, 0) := zp_l zq_0 rfl
theorem p_0_936 : zP1 0 936 = some (.aload_n 0, 0, 0, 0) := zp_l zq_0 rfl
theorem p_0_937 : zP1 0 937 = some (.iload_n 3, 0, 0, 0) := zp_l zq_0 rfl
theorem p_0_938 : zP1 0 938 = some (.iconst 3, 0, 0, 0) := zp_l zq_0 rfl
theorem p_0_939 : zP1 0 939 = some (.iadd, 0, 0, 0) := zp_l zq_0 rfl
theorem p_0_940 : zP1 0 940 = some (.iaload, 0, 0, 0) := zp_l zq_0 rfl
theorem p_0_941 : zP1 0 941 = some (.aload_n 0, 0, 0, 0) := zp_l zq_0 rfl
theorem p_0_942 : zP1 0 942 = some (.iload_n 3, 0, 0, 0) := zp_l zq_0 rfl
theorem p_0_943 : zP1 0 943 = some (.iconst 4, 0, 0, 0) := zp_l zq_0 rfl
theorem p_0_944 : zP1 0 944 = some (.iadd, 0, 0, 0) := zp_l zq_0 rfl
theorem p_0_945 : zP1 0 945 = some (.iaload, 0, 0, 0) := zp_l zq_0 rfl
theorem p_0_946 : zP1 0 946 = some (.invokevirtual 92, 260, 4, 11) := zp_r zq_0 rfl
theorem p_0_949 : zP1 0 949 = some (.if_icmp .eq 1196, 0, 0, 0) := zp_l zq_0 rfl
theorem p_0_952 : zP1 0 952 = some (.iconst 0, 0, 0, 0) := zp_l zq_0 rfl
theorem p_0_953 : zP1 0 953 = some (.ireturn, 0, 0, 0) := zp_l zq_0 rfl
theorem p_0_954 : zP1 0 954 = some (.aload_n 1, 0, 0, 0) := zp_l zq_0 rfl
theorem p_0_955 : zP1 0 955 = some (.aload_n 0, 0, 0, 0) := zp_l zq_0 rfl
theorem p_0_956 : zP1 0 956 = some (.iload_n 3, 0, 0, 0) := zp_l zq_0 rfl
theorem p_0_957 : zP1 0 957 = some (.iconst 1, 0, 0, 0) := zp_l zq_0 rfl
theorem p_0_958 : zP1 0 958 = some (.iadd, 0, 0, 0) := zp_l zq_0 rfl
theorem p_0_959 : zP1 0 959 = some (.iaload, 0, 0, 0) := zp_l zq_0 rfl
theorem p_0_960 : zP1 0 960 = some (.aload_n 0, 0, 0, 0) := zp_l zq_0 rfl
theorem p_0_961 : zP1 0 961 = some (.iload_n 3, 0, 0, 0) := zp_l zq_0 rfl
theorem p_0_962 : zP1 0 962 = some (.iconst 2, 0, 0, 0) := zp_l zq_0 rfl
theorem p_0_963 : zP1 0 963 = some (.iadd, 0, 0, 0) := zp_l zq_0 rfl
theorem p_0_964 : zP1 0 964 = some (.iaload, 0, 0, 0) := zp_l zq_0 rfl
theorem p_0_965 : zP1 0 965 = some (.aload_n 0, 0, 0, 0) := zp_l zq_0 rfl
theorem p_0_966 : zP1 0 966 = some (.iload_n 3, 0, 0, 0) := zp_l zq_0 rfl
theorem p_0_967 : zP1 0 967 = some (.iconst 3, 0, 0, 0) := zp_l zq_0 rfl
theorem p_0_968 : zP1 0 968 = some (.iadd, 0, 0, 0) := zp_l zq_0 rfl
theorem p_0_969 : zP1 0 969 = some (.iaload, 0, 0, 0) := zp_l zq_0 rfl
theorem p_0_970 : zP1 0 970 = some (.aload_n 0, 0, 0, 0) := zp_l zq_0 rfl
theorem p_0_971 : zP1 0 971 = some (.iload_n 3, 0, 0, 0) := zp_l zq_0 rfl
theorem p_0_972 : zP1 0 972 = some (.iconst 4, 0, 0, 0) := zp_l zq_0 rfl
theorem p_0_973 : zP1 0 973 = some (.iadd, 0, 0, 0) := zp_l zq_0 rfl
theorem p_0_974 : zP1 0 974 = some (.iaload, 0, 0, 0) := zp_l zq_0 rfl
theorem p_0_975 : zP1 0 975 = some (.invokevirtual 93, 157, 4, 10) := zp_r zq_0 rfl
theorem p_0_978 : zP1 0 978 = some (.aload_n 2, 0, 0, 0) := zp_l zq_0 rfl
theorem p_0_979 : zP1 0 979 = some (.aload_n 0, 0, 0, 0) := zp_l zq_0 rfl
theorem p_0_980 : zP1 0 980 = some (.iload_n 3, 0, 0, 0) := zp_l zq_0 rfl
theorem p_0_981 : zP1 0 981 = some (.iconst 1, 0, 0, 0) := zp_l zq_0 rfl
theorem p_0_982 : zP1 0 982 = some (.iadd, 0, 0, 0) := zp_l zq_0 rfl
theorem p_0_983 : zP1 0 983 = some (.iaload, 0, 0, 0) := zp_l zq_0 rfl
theorem p_0_984 : zP1 0 984 = some (.aload_n 0, 0, 0, 0) := zp_l zq_0 rfl
theorem p_0_985 : zP1 0 985 = some (.iload_n 3, 0, 0, 0) := zp_l zq_0 rfl
theorem p_0_986 : zP1 0 986 = some (.iconst 2, 0, 0, 0) := zp_l zq_0 rfl
theorem p_0_987 : zP1 0 987 = some (.iadd, 0, 0, 0) := zp_l zq_0 rfl
theorem p_0_988 : zP1 0 988 = some (.iaload, 0, 0, 0) := zp_l zq_0 rfl
theorem p_0_989 : zP1 0 989 = some (.aload_n 0, 0, 0, 0) := zp_l zq_0 rfl
theorem p_0_990 : zP1 0 990 = some (.iload_n 3, 0, 0, 0) := zp_l zq_0 rfl
theorem p_0_991 : zP1 0 991 = some (.iconst 3, 0, 0, 0) := zp_l zq_0 rfl
theorem p_0_992 : zP1 0 992 = some (.iadd, 0, 0, 0) := zp_l zq_0 rfl
theorem p_0_993 : zP1 0 993 = some (.iaload, 0, 0, 0) := zp_l zq_0 rfl
theorem p_0_994 : zP1 0 994 = some (.aload_n 0, 0, 0, 0) := zp_l zq_0 rfl
theorem p_0_995 : zP1 0 995 = some (.iload_n 3, 0, 0, 0) := zp_l zq_0 rfl
theorem p_0_996 : zP1 0 996 = some (.iconst 4, 0, 0, 0) := zp_l zq_0 rfl
theorem p_0_997 : zP1 0 997 = some (.iadd, 0, 0, 0) := zp_l zq_0 rfl
theorem p_0_998 : zP1 0 998 = some (.iaload, 0, 0, 0) := zp_l zq_0 rfl
theorem p_0_999 : zP1 0 999 = some (.invokevirtual 96, 261, 4, 11) := zp_r zq_0 rfl
theorem p_0_1002 : zP1 0 1002 = some (.if_icmp .eq 1143, 0, 0, 0) := zp_l zq_0 rfl
theorem p_0_1005 : zP1 0 1005 = some (.iconst 0, 0, 0, 0) := zp_l zq_0 rfl
theorem p_0_1006 : zP1 0 1006 = some (.ireturn, 0, 0, 0) := zp_l zq_0 rfl
theorem p_0_1007 : zP1 0 1007 = some (.aload_n 1, 0, 0, 0) := zp_l zq_0 rfl
theorem p_0_1008 : zP1 0 1008 = some (.aload_n 0, 0, 0, 0) := zp_l zq_0 rfl
theorem p_0_1009 : zP1 0 1009 = some (.iload_n 3, 0, 0, 0) := zp_l zq_0 rfl
theorem p_0_1010 : zP1 0 1010 = some (.iconst 1, 0, 0, 0) := zp_l zq_0 rfl
theorem p_0_1011 : zP1 0 1011 = some (.iadd, 0, 0, 0) := zp_l zq_0 rfl
theorem p_0_1012 : zP1 0 1012 = some (.iaload, 0, 0, 0) := zp_l zq_0 rfl
theorem p_0_1013 : zP1 0 1013 = some (.aload_n 0, 0, 0, 0) := zp_l zq_0 rfl
theorem p_0_1014 : zP1 0 1014 = some (.iload_n 3, 0, 0, 0) := zp_l zq_0 rfl
theorem p_0_1015 : zP1 0 1015 = some (.iconst 2, 0, 0, 0) := zp_l zq_0 rfl
theorem p_0_1016 : zP1 0 1016 = some (.iadd, 0, 0, 0) := zp_l zq_0 rfl
theorem p_0_1017 : zP1 0 1017 = some (.iaload, 0, 0, 0) := zp_l zq_0 rfl
theorem p_0_1018 : zP1 0 1018 = some (.invokevirtual 97, 158, 2, 10) := zp_r zq_0 rfl
theorem p_0_1021 : zP1 0 1021 = some (.aload_n 2, 0, 0, 0) := zp_l zq_0 rfl
theorem p_0_1022 : zP1 0 1022 = some (.aload_n 0, 0, 0, 0) := zp_l zq_0 rfl
theorem p_0_1023 : zP1 0 1023 = some (.iload_n 3, 0, 0, 0) := zp_l zq_0 rfl
theorem p_0_1024 : zP1 0 1024 = some (.iconst 1, 0, 0, 0) := zp_l zq_0 rfl
theorem p_0_1025 : zP1 0 1025 = some (.iadd, 0, 0, 0) := zp_l zq_0 rfl
theorem p_0_1026 : zP1 0 1026 = some (.iaload, 0, 0, 0) := zp_l zq_0 rfl
theorem p_0_1027 : zP1 0 1027 = some (.aload_n 0, 0, 0, 0) := zp_l zq_0 rfl
theorem p_0_1028 : zP1 0 1028 = some (.iload_n 3, 0, 0, 0) := zp_l zq_0 rfl
theorem p_0_1029 : zP1 0 1029 = some (.iconst 2, 0, 0, 0) := zp_l zq_0 rfl
theorem p_0_1030 : zP1 0 1030 = some (.iadd, 0, 0, 0) := zp_l zq_0 rfl
theorem p_0_1031 : zP1 0 1031 = some (.iaload, 0, 0, 0) := zp_l zq_0 rfl
theorem p_0_1032 : zP1 0 1032 = some (.invokevirtual 100, 263, 2, 11) := zp_r zq_0 rfl
theorem p_0_1035 : zP1 0 1035 = some (.if_icmp .eq 1110, 0, 0, 0) := zp_l zq_0 rfl
theorem p_0_1038 : zP1 0 1038 = some (.iconst 0, 0, 0, 0) := zp_l zq_0 rfl
theorem p_0_1039 : zP1 0 1039 = some (.ireturn, 0, 0, 0) := zp_l zq_0 rfl
theorem p_0_1040 : zP1 0 1040 = some (.aload_n 1, 0, 0, 0) := zp_l zq_0 rfl
theorem p_0_1041 : zP1 0 1041 = some (.aload_n 0, 0, 0, 0) := zp_l zq_0 rfl
theorem p_0_1042 : zP1 0 1042 = some (.iload_n 3, 0, 0, 0) := zp_l zq_0 rfl
theorem p_0_1043 : zP1 0 1043 = some (.iconst 1, 0, 0, 0) := zp_l zq_0 rfl
theorem p_0_1044 : zP1 0 1044 = some (.iadd, 0, 0, 0) := zp_l zq_0 rfl
theorem p_0_1045 : zP1 0 1045 = some (.iaload, 0, 0, 0) := zp_l zq_0 rfl
theorem p_0_1046 : zP1 0 1046 = some (.invokevirtual 101, 159, 1, 10) := zp_r zq_0 rfl
theorem p_0_1049 : zP1 0 1049 = some (.aload_n 2, 0, 0, 0) := zp_l zq_0 rfl
theorem p_0_1050 : zP1 0 1050 = some (.aload_n 0, 0, 0, 0) := zp_l zq_0 rfl
theorem p_0_1051 : zP1 0 1051 = some (.iload_n 3, 0, 0, 0) := zp_l zq_0 rfl
theorem p_0_1052 : zP1 0 1052 = some (.iconst 1, 0, 0, 0) := zp_l zq_0 rfl
theorem p_0_1053 : zP1 0 1053 = some (.iadd, 0, 0, 0) := zp_l zq_0 rfl
theorem p_0_1054 : zP1 0 1054 = some (.iaload, 0, 0, 0) := zp_l zq_0 rfl
theorem p_0_1055 : zP1 0 1055 = some (.invokevirtual 104, 266, 1, 11) := zp_r zq_0 rfl
theorem p_0_1058 : zP1 0 1058 = some (.if_icmp .eq 1087, 0, 0, 0) := zp_l zq_0 rfl
theorem p_0_1061 : zP1 0 1061 = some (.iconst 0, 0, 0, 0) := zp_l zq_0 rfl
theorem p_0_1062 : zP1 0 1062 = some (.ireturn, 0, 0, 0) := zp_l zq_0 rfl
theorem p_0_1063 : zP1 0 1063 = some (.aload_n 1, 0, 0, 0) := zp_l zq_0 rfl
theorem p_0_1064 : zP1 0 1064 = some (.aload_n 0, 0, 0, 0) := zp_l zq_0 rfl
theorem p_0_1065 : zP1 0 1065 = some (.iload_n 3, 0, 0, 0) := zp_l zq_0 rfl
theorem p_0_1066 : zP1 0 1066 = some (.iconst 1, 0, 0, 0) := zp_l zq_0 rfl
theorem p_0_1067 : zP1 0 1067 = some (.iadd, 0, 0, 0) := zp_l zq_0 rfl
theorem p_0_1068 : zP1 0 1068 = some (.iaload, 0, 0, 0) := zp_l zq_0 rfl
theorem p_0_1069 : zP1 0 1069 = some (.invokevirtual 105, 160, 1, 10) := zp_r zq_0 rfl
theorem p_0_1072 : zP1 0 1072 = some (.aload_n 2, 0, 0, 0) := zp_l zq_0 rfl
theorem p_0_1073 : zP1 0 1073 = some (.aload_n 0, 0, 0, 0) := zp_l zq_0 rfl
theorem p_0_1074 : zP1 0 1074 = some (.iload_n 3, 0, 0, 0) := zp_l zq_0 rfl
theorem p_0_1075 : zP1 0 1075 = some (.iconst 1, 0, 0, 0) := zp_l zq_0 rfl
theorem p_0_1076 : zP1 0 1076 = some (.iadd, 0, 0, 0) := zp_l zq_0 rfl
theorem p_0_1077 : zP1 0 1077 = some (.iaload, 0, 0, 0) := zp_l zq_0 rfl
theorem p_0_1078 : zP1 0 1078 = some (.invokevirtual 108, 267, 1, 11) := zp_r zq_0 rfl
theorem p_0_1081 : zP1 0 1081 = some (.if_icmp .eq 1064, 0, 0, 0) := zp_l zq_0 rfl
theorem p_0_1084 : zP1 0 1084 = some (.iconst 0, 0, 0, 0) := zp_l zq_0 rfl
theorem p_0_1085 : zP1 0 1085 = some (.ireturn, 0, 0, 0) := zp_l zq_0 rfl
theorem p_0_1086 : zP1 0 1086 = some (.aload_n 1, 0, 0, 0) := zp_l zq_0 rfl
theorem p_0_1087 : zP1 0 1087 = some (.aload_n 0, 0, 0, 0) := zp_l zq_0 rfl
theorem p_0_1088 : zP1 0 1088 = some (.iload_n 3, 0, 0, 0) := zp_l zq_0 rfl
theorem p_0_1089 : zP1 0 1089 = some (.iconst 1, 0, 0, 0) := zp_l zq_0 rfl
theorem p_0_1090 : zP1 0 1090 = some (.iadd, 0, 0, 0) := zp_l zq_0 rfl
theorem p_0_1091 : zP1 0 1091 = some (.iaload, 0, 0, 0) := zp_l zq_0 rfl
theorem p_0_1092 : zP1 0 1092 = some (.aload_n 0, 0, 0, 0) := zp_l zq_0 rfl
theorem p_0_1093 : zP1 0 1093 = some (.iload_n 3, 0, 0, 0) := zp_l zq_0 rfl
theorem p_0_1094 : zP1 0 1094 = some (.iconst 2, 0, 0, 0) := zp_l zq_0 rfl
theorem p_0_1095 : zP1 0 1095 = some (.iadd, 0, 0, 0) := zp_l zq_0 rfl
theorem p_0_1096 : zP1 0 1096 = some (.iaload, 0, 0, 0) := zp_l zq_0 rfl
theorem p_0_1097 : zP1 0 1097 = some (.invokevirtual 109, 161, 2, 10) := zp_r zq_0 rfl
theorem p_0_1100 : zP1 0 1100 = some (.aload_n 2, 0, 0, 0) := zp_l zq_0 rfl
theorem p_0_1101 : zP1 0 1101 = some (.aload_n 0, 0, 0, 0) := zp_l zq_0 rfl
theorem p_0_1102 : zP1 0 1102 = some (.iload_n 3, 0, 0, 0) := zp_l zq_0 rfl
theorem p_0_1103 : zP1 0 1103 = some (.iconst 1, 0, 0, 0) := zp_l zq_0 rfl
theorem p_0_1104 : zP1 0 1104 = some (.iadd, 0, 0, 0) := zp_l zq_0 rfl
theorem p_0_1105 : zP1 0 1105 = some (.iaload, 0, 0, 0) := zp_l zq_0 rfl
theorem p_0_1106 : zP1 0 1106 = some (.aload_n 0, 0, 0, 0) := zp_l zq_0 rfl
theorem p_0_1107 : zP1 0 1107 = some (.iload_n 3, 0, 0, 0) := zp_l zq_0 rfl
theorem p_0_1108 : zP1 0 1108 = some (.iconst 2, 0, 0, 0) := zp_l zq_0 rfl
theorem p_0_1109 : zP1 0 1109 = some (.iadd, 0, 0, 0) := zp_l zq_0 rfl
theorem p_0_1110 : zP1 0 1110 = some (.iaload, 0, 0, 0) := zp_l zq_0 rfl
theorem p_0_1111 : zP1 0 1111 = some (.invokevirtual 112, 269, 2, 11) := zp_r zq_0 rfl
theorem p_0_1114 : zP1 0 1114 = some (.if_icmp .eq 1031, 0, 0, 0) := zp_l zq_0 rfl
theorem p_0_1117 : zP1 0 1117 = some (.iconst 0, 0, 0, 0) := zp_l zq_0 rfl
theorem p_0_1118 : zP1 0 1118 = some (.ireturn, 0, 0, 0) := zp_l zq_0 rfl
theorem p_0_1119 : zP1 0 1119 = some (.aload_n 1, 0, 0, 0) := zp_l zq_0 rfl
theorem p_0_1120 : zP1 0 1120 = some (.aload_n 0, 0, 0, 0) := zp_l zq_0 rfl
theorem p_0_1121 : zP1 0 1121 = some (.iload_n 3, 0, 0, 0) := zp_l zq_0 rfl
theorem p_0_1122 : zP1 0 1122 = some (.iconst 1, 0, 0, 0) := zp_l zq_0 rfl
theorem p_0_1123 : zP1 0 1123 = some (.iadd, 0, 0, 0) := zp_l zq_0 rfl
theorem p_0_1124 : zP1 0 1124 = some (.iaload, 0, 0, 0) := zp_l zq_0 rfl
theorem p_0_1125 : zP1 0 1125 = some (.invokevirtual 113, 162, 1, 10) := zp_r zq_0 rfl
theorem p_0_1128 : zP1 0 1128 = some (.aload_n 2, 0, 0, 0) := zp_l zq_0 rfl
theorem p_0_1129 : zP1 0 1129 = some (.aload_n 0, 0, 0, 0) := zp_l zq_0 rfl
theorem p_0_1130 : zP1 0 1130 = some (.iload_n 3, 0, 0, 0) := zp_l zq_0 rfl
theorem p_0_1131 : zP1 0 1131 = some (.iconst 1, 0, 0, 0) := zp_l zq_0 rfl
theorem p_0_1132 : zP1 0 1132 = some (.iadd, 0, 0, 0) := zp_l zq_0 rfl
theorem p_0_1133 : zP1 0 1133 = some (.iaload, 0, 0, 0) := zp_l zq_0 rfl
theorem p_0_1134 : zP1 0 1134 = some (.invokevirtual 116, 270, 1, 11) := zp_r zq_0 rfl
theorem p_0_1137 : zP1 0 1137 = some (.if_icmp .eq 1008, 0, 0, 0) := zp_l zq_0 rfl
theorem p_0_1140 : zP1 0 1140 = some (.iconst 0, 0, 0, 0) := zp_l zq_0 rfl
theorem p_0_1141 : zP1 0 1141 = some (.ireturn, 0, 0, 0) := zp_l zq_0 rfl
theorem p_0_1142 : zP1 0 1142 = some (.aload_n 1, 0, 0, 0) := zp_l zq_0 rfl
theorem p_0_1143 : zP1 0 1143 = some (.aload_n 0, 0, 0, 0) := zp_l zq_0 rfl
theorem p_0_1144 : zP1 0 1144 = some (.iload_n 3, 0, 0, 0) := zp_l zq_0 rfl
theorem p_0_1145 : zP1 0 1145 = some (.iconst 1, 0, 0, 0) := zp_l zq_0 rfl
theorem p_0_1146 : zP1 0 1146 = some (.iadd, 0, 0, 0) := zp_l zq_0 rfl
theorem p_0_1147 : zP1 0 1147 = some (.iaload, 0, 0, 0) := zp_l zq_0 rfl
theorem p_0_1148 : zP1 0 1148 = some (.aload_n 0, 0, 0, 0) := zp_l zq_0 rfl
theorem p_0_1149 : zP1 0 1149 = some (.iload_n 3, 0, 0, 0) := zp_l zq_0 rfl
theorem p_0_1150 : zP1 0 1150 = some (.iconst 2, 0, 0, 0) := zp_l zq_0 rfl
theorem p_0_1151 : zP1 0 1151 = some (.iadd, 0, 0, 0) := zp_l zq_0 rfl
theorem p_0_1152 : zP1 0 1152 = some (.iaload, 0, 0, 0) := zp_l zq_0 rfl
theorem p_0_1153 : zP1 0 1153 = some (.aload_n 0, 0, 0, 0) := zp_l zq_0 rfl
theorem p_0_1154 : zP1 0 1154 = some (.iload_n 3, 0, 0, 0) := zp_l zq_0 rfl
theorem p_0_1155 : zP1 0 1155 = some (.iconst 3, 0, 0, 0) := zp_l zq_0 rfl
theorem p_0_1156 : zP1 0 1156 = some (.iadd, 0, 0, 0) := zp_l zq_0 rfl
theorem p_0_1157 : zP1 0 1157 = some (.iaload, 0, 0, 0) := zp_l zq_0 rfl
theorem p_0_1158 : zP1 0 1158 = some (.invokevirtual 117, 163, 3, 10) := zp_r zq_0 rfl
theorem p_0_1161 : zP1 0 1161 = some (.aload_n 2, 0, 0, 0) := zp_l zq_0 rfl
theorem p_0_1162 : zP1 0 1162 = some (.aload_n 0, 0, 0, 0) := zp_l zq_0 rfl
theorem p_0_1163 : zP1 0 1163 = some (.iload_n 3, 0, 0, 0) := zp_l zq_0 rfl
theorem p_0_1164 : zP1 0 1164 = some (.iconst 1, 0, 0, 0) := zp_l zq_0 rfl
theorem p_0_1165 : zP1 0 1165 = some (.iadd, 0, 0, 0) := zp_l zq_0 rfl
theorem p_0_1166 : zP1 0 1166 = some (.iaload, 0, 0, 0) := zp_l zq_0 rfl
theorem p_0_1167 : zP1 0 1167 = some (.aload_n 0, 0, 0, 0) := zp_l zq_0 rfl
theorem p_0_1168 : zP1 0 1168 = some (.iload_n 3, 0, 0, 0) := zp_l zq_0 rfl
theorem p_0_1169 : zP1 0 1169 = some (.iconst 2, 0, 0, 0) := zp_l zq_0 rfl
theorem p_0_1170 : zP1 0 1170 = some (.iadd, 0, 0, 0) := zp_l zq_0 rfl
theorem p_0_1171 : zP1 0 1171 = some (.iaload, 0, 0, 0) := zp_l zq_0 rfl
theorem p_0_1172 : zP1 0 1172 = some (.aload_n 0, 0, 0, 0) := zp_l zq_0 rfl
theorem p_0_1173 : zP1 0 1173 = some (.iload_n 3, 0, 0, 0) := zp_l zq_0 rfl
theorem p_0_1174 : zP1 0 1174 = some (.iconst 3, 0, 0, 0) := zp_l zq_0 rfl
theorem p_0_1175 : zP1 0 1175 = some (.iadd, 0, 0, 0) := zp_l zq_0 rfl
theorem p_0_1176 : zP1 0 1176 = some (.iaload, 0, 0, 0) := zp_l zq_0 rfl
theorem p_0_1177 : zP1 0 1177 = some (.invokevirtual 120, 271, 3, 11) := zp_r zq_0 rfl
theorem p_0_1180 : zP1 0 1180 = some (.if_icmp .eq 965, 0, 0, 0) := zp_l zq_0 rfl
theorem p_0_1183 : zP1 0 1183 = some (.iconst 0, 0, 0, 0) := zp_l zq_0 rfl
theorem p_0_1184 : zP1 0 1184 = some (.ireturn, 0, 0, 0) := zp_l zq_0 rfl
theorem p_0_1185 : zP1 0 1185 = some (.aload_n 1, 0, 0, 0) := zp_l zq_0 rfl
theorem p_0_1186 : zP1 0 1186 = some (.aload_n 0, 0, 0, 0) := zp_l zq_0 rfl
theorem p_0_1187 : zP1 0 1187 = some (.iload_n 3, 0, 0, 0) := zp_l zq_0 rfl
theorem p_0_1188 : zP1 0 1188 = some (.iconst 1, 0, 0, 0) := zp_l zq_0 rfl
theorem p_0_1189 : zP1 0 1189 = some (.iadd, 0, 0, 0) := zp_l zq_0 rfl
theorem p_0_1190 : zP1 0 1190 = some (.iaload, 0, 0, 0) := zp_l zq_0 rfl
theorem p_0_1191 : zP1 0 1191 = some (.aload_n 0, 0, 0, 0) := zp_l zq_0 rfl
theorem p_0_1192 : zP1 0 1192 = some (.iload_n 3, 0, 0, 0) := zp_l zq_0 rfl
theorem p_0_1193 : zP1 0 1193 = some (.iconst 2, 0, 0, 0) := zp_l zq_0 rfl
theorem p_0_1194 : zP1 0 1194 = some (.iadd, 0, 0, 0) := zp_l zq_0 rfl
theorem p_0_1195 : zP1 0 1195 = some (.iaload, 0, 0, 0) := zp_l zq_0 rfl
theorem p_0_1196 : zP1 0 1196 = some (.invokevirtual 121, 164, 2, 10) := zp_r zq_0 rfl
theorem p_0_1199 : zP1 0 1199 = some (.aload_n 2, 0, 0, 0) := zp_l zq_0 rfl
theorem p_0_1200 : zP1 0 1200 = some (.aload_n 0, 0, 0, 0) := zp_l zq_0 rfl
theorem p_0_1201 : zP1 0 1201 = some (.iload_n 3, 0, 0, 0) := zp_l zq_0 rfl
theorem p_0_1202 : zP1 0 1202 = some (.iconst 1, 0, 0, 0) := zp_l zq_0 rfl
theorem p_0_1203 : zP1 0 1203 = some (.iadd, 0, 0, 0) := zp_l zq_0 rfl
theorem p_0_1204 : zP1 0 1204 = some (.iaload, 0, 0, 0) := zp_l zq_0 rfl
theorem p_0_1205 : zP1 0 1205 = some (.aload_n 0, 0, 0, 0) := zp_l zq_0 rfl
theorem p_0_1206 : zP1 0 1206 = some (.iload_n 3, 0, 0, 0) := zp_l zq_0 rfl
theorem p_0_1207 : zP1 0 1207 = some (.iconst 2, 0, 0, 0) := zp_l zq_0 rfl
theorem p_0_1208 : zP1 0 1208 = some (.iadd, 0, 0, 0) := zp_l zq_0 rfl
theorem p_0_1209 : zP1 0 1209 = some (.iaload, 0, 0, 0) := zp_l zq_0 rfl
theorem p_0_1210 : zP1 0 1210 = some (.invokevirtual 124, 272, 2, 11) := zp_r zq_0 rfl
theorem p_0_1213 : zP1 0 1213 = some (.if_icmp .eq 932, 0, 0, 0) := zp_l zq_0 rfl
theorem p_0_1216 : zP1 0 1216 = some (.iconst 0, 0, 0, 0) := zp_l zq_0 rfl
theorem p_0_1217 : zP1 0 1217 = some (.ireturn, 0, 0, 0) := zp_l zq_0 rfl
theorem p_0_1218 : zP1 0 1218 = some (.aload_n 1, 0, 0, 0) := zp_l zq_0 rfl
theorem p_0_1219 : zP1 0 1219 = some (.aload_n 0, 0, 0, 0) := zp_l zq_0 rfl
theorem p_0_1220 : zP1 0 1220 = some (.iload_n 3, 0, 0, 0) := zp_l zq_0 rfl
theorem p_0_1221 : zP1 0 1221 = some (.iconst 1, 0, 0, 0) := zp_l zq_0 rfl
theorem p_0_1222 : zP1 0 1222 = some (.iadd, 0, 0, 0) := zp_l zq_0 rfl
theorem p_0_1223 : zP1 0 1223 = some (.iaload, 0, 0, 0) := zp_l zq_0 rfl
theorem p_0_1224 : zP1 0 1224 = some (.aload_n 0, 0, 0, 0) := zp_l zq_0 rfl
theorem p_0_1225 : zP1 0 1225 = some (.iload_n 3, 0, 0, 0) := zp_l zq_0 rfl
theorem p_0_1226 : zP1 0 1226 = some (.iconst 2, 0, 0, 0) := zp_l zq_0 rfl
theorem p_0_1227 : zP1 0 1227 = some (.iadd, 0, 0, 0) := zp_l zq_0 rfl
theorem p_0_1228 : zP1 0 1228 = some (.iaload, 0, 0, 0) := zp_l zq_0 rfl
theorem p_0_1229 : zP1 0 1229 = some (.invokevirtual 125, 165, 2, 10) := zp_r zq_0 rfl
theorem p_0_1232 : zP1 0 1232 = some (.aload_n 2, 0, 0, 0) := zp_l zq_0 rfl
theorem p_0_1233 : zP1 0 1233 = some (.aload_n 0, 0, 0, 0) := zp_l zq_0 rfl
theorem p_0_1234 : zP1 0 1234 = some (.iload_n 3, 0, 0, 0) := zp_l zq_0 rfl
theorem p_0_1235 : zP1 0 1235 = some (.iconst 1, 0, 0, 0) := zp_l zq_0 rfl
theorem p_0_1236 : zP1 0 1236 = some (.iadd, 0, 0, 0) := zp_l zq_0 rfl
theorem p_0_1237 : zP1 0 1237 = some (.iaload, 0, 0, 0) := zp_l zq_0 rfl
theorem p_0_1238 : zP1 0 1238 = some (.aload_n 0, 0, 0, 0) := zp_l zq_0 rfl
theorem p_0_1239 : zP1 0 1239 = some (.iload_n 3, 0, 0, 0) := zp_l zq_0 rfl
theorem p_0_1240 : zP1 0 1240 = some (.iconst 2, 0, 0, 0) := zp_l zq_0 rfl
theorem p_0_1241 : zP1 0 1241 = some (.iadd, 0, 0, 0) := zp_l zq_0 rfl
theorem p_0_1242 : zP1 0 1242 = some (.iaload, 0, 0, 0) := zp_l zq_0 rfl
theorem p_0_1243 : zP1 0 1243 = some (.invokevirtual 128, 274, 2, 11) := zp_r zq_0 rfl
theorem p_0_1246 : zP1 0 1246 = some (.if_icmp .eq 899, 0, 0, 0) := zp_l zq_0 rfl
theorem p_0_1249 : zP1 0 1249 = some (.iconst 0, 0, 0, 0) := zp_l zq_0 rfl
theorem p_0_1250 : zP1 0 1250 = some (.ireturn, 0, 0, 0) := zp_l zq_0 rfl
theorem p_0_1251 : zP1 0 1251 = some (.aload_n 1, 0, 0, 0) := zp_l zq_0 rfl
theorem p_0_1252 : zP1 0 1252 = some (.aload_n 0, 0, 0, 0) := zp_l zq_0 rfl
theorem p_0_1253 : zP1 0 1253 = some (.iload_n 3, 0, 0, 0) := zp_l zq_0 rfl
theorem p_0_1254 : zP1 0 1254 = some (.iconst 1, 0, 0, 0) := zp_l zq_0 rfl
theorem p_0_1255 : zP1 0 1255 = some (.iadd, 0, 0, 0) := zp_l zq_0 rfl
theorem p_0_1256 : zP1 0 1256 = some (.iaload, 0, 0, 0) := zp_l zq_0 rfl
theorem p_0_1257 : zP1 0 1257 = some (.aload_n 0, 0, 0, 0) := zp_l zq_0 rfl
theorem p_0_1258 : zP1 0 1258 = some (.iload_n 3, 0, 0, 0) := zp_l zq_0 rfl
theorem p_0_1259 : zP1 0 1259 = some (.iconst 2, 0, 0, 0) := zp_l zq_0 rfl
theorem p_0_1260 : zP1 0 1260 = some (.iadd, 0, 0, 0) := zp_l zq_0 rfl
theorem p_0_1261 : zP1 0 1261 = some (.iaload, 0, 0, 0) := zp_l zq_0 rfl
theorem p_0_1262 : zP1 0 1262 = some (.invokevirtual 129, 166, 2, 10) := zp_r zq_0 rfl
theorem p_0_1265 : zP1 0 1265 = some (.aload_n 2, 0, 0, 0) := zp_l zq_0 rfl
theorem p_0_1266 : zP1 0 1266 = some (.aload_n 0, 0, 0, 0) := zp_l zq_0 rfl
theorem p_0_1267 : zP1 0 1267 = some (.iload_n 3, 0, 0, 0) := zp_l zq_0 rfl
theorem p_0_1268 : zP1 0 1268 = some (.iconst 1, 0, 0, 0) := zp_l zq_0 rfl
theorem p_0_1269 : zP1 0 1269 = some (.iadd, 0, 0, 0) := zp_l zq_0 rfl
theorem p_0_1270 : zP1 0 1270 = some (.iaload, 0, 0, 0) := zp_l zq_0 rfl
theorem p_0_1271 : zP1 0 1271 = some (.aload_n 0, 0, 0, 0) := zp_l zq_0 rfl
theorem p_0_1272 : zP1 0 1272 = some (.iload_n 3, 0, 0, 0) := zp_l zq_0 rfl
theorem p_0_1273 : zP1 0 1273 = some (.iconst 2, 0, 0, 0) := zp_l zq_0 rfl
theorem p_0_1274 : zP1 0 1274 = some (.iadd, 0, 0, 0) := zp_l zq_0 rfl
theorem p_0_1275 : zP1 0 1275 = some (.iaload, 0, 0, 0) := zp_l zq_0 rfl
theorem p_0_1276 : zP1 0 1276 = some (.invokevirtual 132, 275, 2, 11) := zp_r zq_0 rfl
theorem p_0_1279 : zP1 0 1279 = some (.if_icmp .eq 866, 0, 0, 0) := zp_l zq_0 rfl
theorem p_0_1282 : zP1 0 1282 = some (.iconst 0, 0, 0, 0) := zp_l zq_0 rfl
theorem p_0_1283 : zP1 0 1283 = some (.ireturn, 0, 0, 0) := zp_l zq_0 rfl
theorem p_0_1284 : zP1 0 1284 = some (.aload_n 1, 0, 0, 0) := zp_l zq_0 rfl
theorem p_0_1285 : zP1 0 1285 = some (.aload_n 0, 0, 0, 0) := zp_l zq_0 rfl
theorem p_0_1286 : zP1 0 1286 = some (.iload_n 3, 0, 0, 0) := zp_l zq_0 rfl
theorem p_0_1287 : zP1 0 1287 = some (.iconst 1, 0, 0, 0) := zp_l zq_0 rfl
theorem p_0_1288 : zP1 0 1288 = some (.iadd, 0, 0, 0) := zp_l zq_0 rfl
theorem p_0_1289 : zP1 0 1289 = some (.iaload, 0, 0, 0) := zp_l zq_0 rfl
theorem p_0_1290 : zP1 0 1290 = some (.aload_n 0, 0, 0, 0) := zp_l zq_0 rfl
theorem p_0_1291 : zP1 0 1291 = some (.iload_n 3, 0, 0, 0) := zp_l zq_0 rfl
theorem p_0_1292 : zP1 0 1292 = some (.iconst 2, 0, 0, 0) := zp_l zq_0 rfl
theorem p_0_1293 : zP1 0 1293 = some (.iadd, 0, 0, 0) := zp_l zq_0 rfl
theorem p_0_1294 : zP1 0 1294 = some (.iaload, 0, 0, 0) := zp_l zq_0 rfl
theorem p_0_1295 : zP1 0 1295 = some (.aload_n 0, 0, 0, 0) := zp_l zq_0 rfl
theorem p_0_1296 : zP1 0 1296 = some (.iload_n 3, 0, 0, 0) := zp_l zq_0 rfl
theorem p_0_1297 : zP1 0 1297 = some (.iconst 3, 0, 0, 0) := zp_l zq_0 rfl
theorem p_0_1298 : zP1 0 1298 = some (.iadd, 0, 0, 0) := zp_l zq_0 rfl
theorem p_0_1299 : zP1 0 1299 = some (.iaload, 0, 0, 0) := zp_l zq_0 rfl
theorem p_0_1300 : zP1 0 1300 = some (.aload_n 0, 0, 0, 0) := zp_l zq_0 rfl
theorem p_0_1301 : zP1 0 1301 = some (.iload_n 3, 0, 0, 0) := zp_l zq_0 rfl
theorem p_0_1302 : zP1 0 1302 = some (.iconst 4, 0, 0, 0) := zp_l zq_0 rfl
theorem p_0_1303 : zP1 0 1303 = some (.iadd, 0, 0, 0) := zp_l zq_0 rfl
theorem p_0_1304 : zP1 0 1304 = some (.iaload, 0, 0, 0) := zp_l zq_0 rfl
theorem p_0_1305 : zP1 0 1305 = some (.invokevirtual 133, 167, 4, 10) := zp_r zq_0 rfl
theorem p_0_1308 : zP1 0 1308 = some (.aload_n 2, 0, 0, 0) := zp_l zq_0 rfl
theorem p_0_1309 : zP1 0 1309 = some (.aload_n 0, 0, 0, 0) := zp_l zq_0 rfl
theorem p_0_1310 : zP1 0 1310 = some (.iload_n 3, 0, 0, 0) := zp_l zq_0 rfl
theorem p_0_1311 : zP1 0 1311 = some (.iconst 1, 0, 0, 0) := zp_l zq_0 rfl
theorem p_0_1312 : zP1 0 1312 = some (.iadd, 0, 0, 0) := zp_l zq_0 rfl
theorem p_0_1313 : zP1 0 1313 = some (.iaload, 0, 0, 0) := zp_l zq_0 rfl
theorem p_0_1314 : zP1 0 1314 = some (.aload_n 0, 0, 0, 0) := zp_l zq_0 rfl
theorem p_0_1315 : zP1 0 1315 = some (.iload_n 3, 0, 0, 0) := zp_l zq_0 rfl
theorem p_0_1316 : zP1 0 1316 = some (.iconst 2, 0, 0, 0) := zp_l zq_0 rfl
theorem p_0_1317 : zP1 0 1317 = some (.iadd, 0, 0, 0) := zp_l zq_0 rfl
theorem p_0_1318 : zP1 0 1318 = some (.iaload, 0, 0, 0) := zp_l zq_0 rfl
theorem p_0_1319 : zP1 0 1319 = some (.aload_n 0, 0, 0, 0) := zp_l zq_0 rfl
theorem p_0_1320 : zP1 0 1320 = some (.iload_n 3, 0, 0, 0) := zp_l zq_0 rfl
theorem p_0_1321 : zP1 0 1321 = some (.iconst 3, 0, 0, 0) := zp_l zq_0 rfl
theorem p_0_1322 : zP1 0 1322 = some (.iadd, 0, 0, 0) := zp_l zq_0 rfl
theorem p_0_1323 : zP1 0 1323 = some (.iaload, 0, 0, 0) := zp_l zq_0 rfl
theorem p_0_1324 : zP1 0 1324 = some (.aload_n 0, 0, 0, 0) := zp_l zq_0 rfl
theorem p_0_1325 : zP1 0 1325 = some (.iload_n 3, 0, 0, 0) := zp_l zq_0 rfl
theorem p_0_1326 : zP1 0 1326 = some (.iconst 4, 0, 0, 0) := zp_l zq_0 rfl
theorem p_0_1327 : zP1 0 1327 = some (.iadd, 0, 0, 0) := zp_l zq_0 rfl
theorem p_0_1328 : zP1 0 1328 = some (.iaload, 0, 0, 0) := zp_l zq_0 rfl
theorem p_0_1329 : zP1 0 1329 = some (.invokevirtual 136, 276, 4, 11) := zp_r zq_0 rfl
theorem p_0_1332 : zP1 0 1332 = some (.if_icmp .eq 813, 0, 0, 0) := zp_l zq_0 rfl
theorem p_0_1335 : zP1 0 1335 = some (.iconst 0, 0, 0, 0) := zp_l zq_0 rfl
theorem p_0_1336 : zP1 0 1336 = some (.ireturn, 0, 0, 0) := zp_l zq_0 rfl
theorem p_0_1337 : zP1 0 1337 = some (.aload_n 1, 0, 0, 0) := zp_l zq_0 rfl
theorem p_0_1338 : zP1 0 1338 = some (.aload_n 0, 0, 0, 0) := zp_l zq_0 rfl
theorem p_0_1339 : zP1 0 1339 = some (.iload_n 3, 0, 0, 0) := zp_l zq_0 rfl
theorem p_0_1340 : zP1 0 1340 = some (.iconst 1, 0, 0, 0) := zp_l zq_0 rfl
theorem p_0_1341 : zP1 0 1341 = some (.iadd, 0, 0, 0) := zp_l zq_0 rfl
theorem p_0_1342 : zP1 0 1342 = some (.iaload, 0, 0, 0) := zp_l zq_0 rfl
theorem p_0_1343 : zP1 0 1343 = some (.aload_n 0, 0, 0, 0) := zp_l zq_0 rfl
theorem p_0_1344 : zP1 0 1344 = some (.iload_n 3, 0, 0, 0) := zp_l zq_0 rfl
theorem p_0_1345 : zP1 0 1345 = some (.iconst 2, 0, 0, 0) := zp_l zq_0 rfl
theorem p_0_1346 : zP1 0 1346 = some (.iadd, 0, 0, 0) := zp_l zq_0 rfl
theorem p_0_1347 : zP1 0 1347 = some (.iaload, 0, 0, 0) := zp_l zq_0 rfl
theorem p_0_1348 : zP1 0 1348 = some (.invokevirtual 137, 168, 2, 10) := zp_r zq_0 rfl
theorem p_0_1351 : zP1 0 1351 = some (.aload_n 2, 0, 0, 0) := zp_l zq_0 rfl
theorem p_0_1352 : zP1 0 1352 = some (.aload_n 0, 0, 0, 0) := zp_l zq_0 rfl
theorem p_0_1353 : zP1 0 1353 = some (.iload_n 3, 0, 0, 0) := zp_l zq_0 rfl
theorem p_0_1354 : zP1 0 1354 = some (.iconst 1, 0, 0, 0) := zp_l zq_0 rfl
theorem p_0_1355 : zP1 0 1355 = some (.iadd, 0, 0, 0) := zp_l zq_0 rfl
theorem p_0_1356 : zP1 0 1356 = some (.iaload, 0, 0, 0) := zp_l zq_0 rfl
theorem p_0_1357 : zP1 0 1357 = some (.aload_n 0, 0, 0, 0) := zp_l zq_0 rfl
theorem p_0_1358 : zP1 0 1358 = some (.iload_n 3, 0, 0, 0) := zp_l zq_0 rfl
theorem p_0_1359 : zP1 0 1359 = some (.iconst 2, 0, 0, 0) := zp_l zq_0 rfl
theorem p_0_1360 : zP1 0 1360 = some (.iadd, 0, 0, 0) := zp_l zq_0 rfl
theorem p_0_1361 : zP1 0 1361 = some (.iaload, 0, 0, 0) := zp_l zq_0 rfl
theorem p_0_1362 : zP1 0 1362 = some (.invokevirtual 140, 278, 2, 11) := zp_r zq_0 rfl
theorem p_0_1365 : zP1 0 1365 = some (.if_icmp .eq 780, 0, 0, 0) := zp_l zq_0 rfl
theorem p_0_1368 : zP1 0 1368 = some (.iconst 0, 0, 0, 0) := zp_l zq_0 rfl
theorem p_0_1369 : zP1 0 1369 = some (.ireturn, 0, 0, 0) := zp_l zq_0 rfl
theorem p_0_1370 : zP1 0 1370 = some (.aload_n 1, 0, 0, 0) := zp_l zq_0 rfl
theorem p_0_1371 : zP1 0 1371 = some (.aload_n 0, 0, 0, 0) := zp_l zq_0 rfl
theorem p_0_1372 : zP1 0 1372 = some (.iload_n 3, 0, 0, 0) := zp_l zq_0 rfl
theorem p_0_1373 : zP1 0 1373 = some (.iconst 1, 0, 0, 0) := zp_l zq_0 rfl
theorem p_0_1374 : zP1 0 1374 = some (.iadd, 0, 0, 0) := zp_l zq_0 rfl
theorem p_0_1375 : zP1 0 1375 = some (.iaload, 0, 0, 0) := zp_l zq_0 rfl
theorem p_0_1376 : zP1 0 1376 = some (.aload_n 0, 0, 0, 0) := zp_l zq_0 rfl
theorem p_0_1377 : zP1 0 1377 = some (.iload_n 3, 0, 0, 0) := zp_l zq_0 rfl
theorem p_0_1378 : zP1 0 1378 = some (.iconst 2, 0, 0, 0) := zp_l zq_0 rfl
theorem p_0_1379 : zP1 0 1379 = some (.iadd, 0, 0, 0) := zp_l zq_0 rfl
theorem p_0_1380 : zP1 0 1380 = some (.iaload, 0, 0, 0) := zp_l zq_0 rfl
theorem p_0_1381 : zP1 0 1381 = some (.invokevirtual 141, 169, 2, 10) := zp_r zq_0 rfl
theorem p_0_1384 : zP1 0 1384 = some (.aload_n 2, 0, 0, 0) := zp_l zq_0 rfl
theorem p_0_1385 : zP1 0 1385 = some (.aload_n 0, 0, 0, 0) := zp_l zq_0 rfl
theorem p_0_1386 : zP1 0 1386 = some (.iload_n 3, 0, 0, 0) := zp_l zq_0 rfl
theorem p_0_1387 : zP1 0 1387 = some (.iconst 1, 0, 0, 0) := zp_l zq_0 rfl
theorem p_0_1388 : zP1 0 1388 = some (.iadd, 0, 0, 0) := zp_l zq_0 rfl
theorem p_0_1389 : zP1 0 1389 = some (.iaload, 0, 0, 0) := zp_l zq_0 rfl
theorem p_0_1390 : zP1 0 1390 = some (.aload_n 0, 0, 0, 0) := zp_l zq_0 rfl
theorem p_0_1391 : zP1 0 1391 = some (.iload_n 3, 0, 0, 0) := zp_l zq_0 rfl
theorem p_0_1392 : zP1 0 1392 = some (.iconst 2, 0, 0, 0) := zp_l zq_0 rfl
theorem p_0_1393 : zP1 0 1393 = some (.iadd, 0, 0, 0) := zp_l zq_0 rfl
theorem p_0_1394 : zP1 0 1394 = some (.iaload, 0, 0, 0) := zp_l zq_0 rfl
theorem p_0_1395 : zP1 0 1395 = some (.invokevirtual 144, 279, 2, 11) := zp_r zq_0 rfl
theorem p_0_1398 : zP1 0 1398 = some (.if_icmp .eq 747, 0, 0, 0) := zp_l zq_0 rfl
theorem p_0_1401 : zP1 0 1401 = some (.iconst 0, 0, 0, 0) := zp_l zq_0 rfl
theorem p_0_1402 : zP1 0 1402 = some (.ireturn, 0, 0, 0) := zp_l zq_0 rfl
theorem p_0_1403 : zP1 0 1403 = some (.aload_n 1, 0, 0, 0) := zp_l zq_0 rfl
theorem p_0_1404 : zP1 0 1404 = some (.aload_n 0, 0, 0, 0) := zp_l zq_0 rfl
theorem p_0_1405 : zP1 0 1405 = some (.iload_n 3, 0, 0, 0) := zp_l zq_0 rfl
theorem p_0_1406 : zP1 0 1406 = some (.iconst 1, 0, 0, 0) := zp_l zq_0 rfl
theorem p_0_1407 : zP1 0 1407 = some (.iadd, 0, 0, 0) := zp_l zq_0 rfl
theorem p_0_1408 : zP1 0 1408 = some (.iaload, 0, 0, 0) := zp_l zq_0 rfl
theorem p_0_1409 : zP1 0 1409 = some (.aload_n 0, 0, 0, 0) := zp_l zq_0 rfl
theorem p_0_1410 : zP1 0 1410 = some (.iload_n 3, 0, 0, 0) := zp_l zq_0 rfl
theorem p_0_1411 : zP1 0 1411 = some (.iconst 2, 0, 0, 0) := zp_l zq_0 rfl
theorem p_0_1412 : zP1 0 1412 = some (.iadd, 0, 0, 0) := zp_l zq_0 rfl
theorem p_0_1413 : zP1 0 1413 = some (.iaload, 0, 0, 0) := zp_l zq_0 rfl
theorem p_0_1414 : zP1 0 1414 = some (.aload_n 0, 0, 0, 0) := zp_l zq_0 rfl
theorem p_0_1415 : zP1 0 1415 = some (.iload_n 3, 0, 0, 0) := zp_l zq_0 rfl
theorem p_0_1416 : zP1 0 1416 = some (.iconst 3, 0, 0, 0) := zp_l zq_0 rfl
theorem p_0_1417 : zP1 0 1417 = some (.iadd, 0, 0, 0) := zp_l zq_0 rfl
theorem p_0_1418 : zP1 0 1418 = some (.iaload, 0, 0, 0) := zp_l zq_0 rfl
theorem p_0_1419 : zP1 0 1419 = some (.aload_n 0, 0, 0, 0) := zp_l zq_0 rfl
theorem p_0_1420 : zP1 0 1420 = some (.iload_n 3, 0, 0, 0) := zp_l zq_0 rfl
theorem p_0_1421 : zP1 0 1421 = some (.iconst 4, 0, 0, 0) := zp_l zq_0 rfl
theorem p_0_1422 : zP1 0 1422 = some (.iadd, 0, 0, 0) := zp_l zq_0 rfl
theorem p_0_1423 : zP1 0 1423 = some (.iaload, 0, 0, 0) := zp_l zq_0 rfl
theorem p_0_1424 : zP1 0 1424 = some (.invokevirtual 145, 170, 4, 10) := zp_r zq_0 rfl
theorem p_0_1427 : zP1 0 1427 = some (.aload_n 2, 0, 0, 0) := zp_l zq_0 rfl
theorem p_0_1428 : zP1 0 1428 = some (.aload_n 0, 0, 0, 0) := zp_l zq_0 rfl
theorem p_0_1429 : zP1 0 1429 = some (.iload_n 3, 0, 0, 0) := zp_l zq_0 rfl
theorem p_0_1430 : zP1 0 1430 = some (.iconst 1, 0, 0, 0) := zp_l zq_0 rfl
theorem p_0_1431 : zP1 0 1431 = some (.iadd, 0, 0, 0) := zp_l zq_0 rfl
theorem p_0_1432 : zP1 0 1432 = some (.iaload, 0, 0, 0) := zp_l zq_0 rfl
theorem p_0_1433 : zP1 0 1433 = some (.aload_n 0, 0, 0, 0) := zp_l zq_0 rfl
theorem p_0_1434 : zP1 0 1434 = some (.iload_n 3, 0, 0, 0) := zp_l zq_0 rfl
theorem p_0_1435 : zP1 0 1435 = some (.iconst 2, 0, 0, 0) := zp_l zq_0 rfl
theorem p_0_1436 : zP1 0 1436 = some (.iadd, 0, 0, 0) := zp_l zq_0 rfl
theorem p_0_1437 : zP1 0 1437 = some (.iaload, 0, 0, 0) := zp_l zq_0 rfl
theorem p_0_1438 : zP1 0 1438 = some (.aload_n 0, 0, 0, 0) := zp_l zq_0 rfl
theorem p_0_1439 : zP1 0 1439 = some (.iload_n 3, 0, 0, 0) := zp_l zq_0 rfl
theorem p_0_1440 : zP1 0 1440 = some (.iconst 3, 0, 0, 0) := zp_l zq_0 rfl
theorem p_0_1441 : zP1 0 1441 = some (.iadd, 0, 0, 0) := zp_l zq_0 rfl
theorem p_0_1442 : zP1 0 1442 = some (.iaload, 0, 0, 0) := zp_l zq_0 rfl
theorem p_0_1443 : zP1 0 1443 = some (.aload_n 0, 0, 0, 0) := zp_l zq_0 rfl
theorem p_0_1444 : zP1 0 1444 = some (.iload_n 3, 0, 0, 0) := zp_l zq_0 rfl
theorem p_0_1445 : zP1 0 1445 = some (.iconst 4, 0, 0, 0) := zp_l zq_0 rfl
theorem p_0_1446 : zP1 0 1446 = some (.iadd, 0, 0, 0) := zp_l zq_0 rfl
theorem p_0_1447 : zP1 0 1447 = some (.iaload, 0, 0, 0) := zp_l zq_0 rfl
theorem p_0_1448 : zP1 0 1448 = some (.invokevirtual 148, 285, 4, 11) := zp_r zq_0 rfl
theorem p_0_1451 : zP1 0 1451 = some (.if_icmp .eq 694, 0, 0, 0) := zp_l zq_0 rfl
theorem p_0_1454 : zP1 0 1454 = some (.iconst 0, 0, 0, 0) := zp_l zq_0 rfl
theorem p_0_1455 : zP1 0 1455 = some (.ireturn, 0, 0, 0) := zp_l zq_0 rfl
theorem p_0_1456 : zP1 0 1456 = some (.aload_n 1, 0, 0, 0) := zp_l zq_0 rfl
theorem p_0_1457 : zP1 0 1457 = some (.aload_n 0, 0, 0, 0) := zp_l zq_0 rfl
theorem p_0_1458 : zP1 0 1458 = some (.iload_n 3, 0, 0, 0) := zp_l zq_0 rfl
theorem p_0_1459 : zP1 0 1459 = some (.iconst 1, 0, 0, 0) := zp_l zq_0 rfl
theorem p_0_1460 : zP1 0 1460 = some (.iadd, 0, 0, 0) := zp_l zq_0 rfl
theorem p_0_1461 : zP1 0 1461 = some (.iaload, 0, 0, 0) := zp_l zq_0 rfl
theorem p_0_1462 : zP1 0 1462 = some (.aload_n 0, 0, 0, 0) := zp_l zq_0 rfl
theorem p_0_1463 : zP1 0 1463 = some (.iload_n 3, 0, 0, 0) := zp_l zq_0 rfl
theorem p_0_1464 : zP1 0 1464 = some (.iconst 2, 0, 0, 0) := zp_l zq_0 rfl
theorem p_0_1465 : zP1 0 1465 = some (.iadd, 0, 0, 0) := zp_l zq_0 rfl
theorem p_0_1466 : zP1 0 1466 = some (.iaload, 0, 0, 0) := zp_l zq_0 rfl
theorem p_0_1467 : zP1 0 1467 = some (.invokevirtual 149, 171, 2, 10) := zp_r zq_0 rfl
theorem p_0_1470 : zP1 0 1470 = some (.aload_n 2, 0, 0, 0) := zp_l zq_0 rfl
theorem p_0_1471 : zP1 0 1471 = some (.aload_n 0, 0, 0, 0) := zp_l zq_0 rfl
theorem p_0_1472 : zP1 0 1472 = some (.iload_n 3, 0, 0, 0) := zp_l zq_0 rfl
theorem p_0_1473 : zP1 0 1473 = some (.iconst 1, 0, 0, 0) := zp_l zq_0 rfl
theorem p_0_1474 : zP1 0 1474 = some (.iadd, 0, 0, 0) := zp_l zq_0 rfl
theorem p_0_1475 : zP1 0 1475 = some (.iaload, 0, 0, 0) := zp_l zq_0 rfl
theorem p_0_1476 : zP1 0 1476 = some (.aload_n 0, 0, 0, 0) := zp_l zq_0 rfl
theorem p_0_1477 : zP1 0 1477 = some (.iload_n 3, 0, 0, 0) := zp_l zq_0 rfl
theorem p_0_1478 : zP1 0 1478 = some (.iconst 2, 0, 0, 0) := zp_l zq_0 rfl
theorem p_0_1479 : zP1 0 1479 = some (.iadd, 0, 0, 0) := zp_l zq_0 rfl
theorem p_0_1480 : zP1 0 1480 = some (.iaload, 0, 0, 0) := zp_l zq_0 rfl
theorem p_0_1481 : zP1 0 1481 = some (.invokevirtual 152, 287, 2, 11) := zp_r zq_0 rfl
theorem p_0_1484 : zP1 0 1484 = some (.if_icmp .eq 661, 0, 0, 0) := zp_l zq_0 rfl
theorem p_0_1487 : zP1 0 1487 = some (.iconst 0, 0, 0, 0) := zp_l zq_0 rfl
theorem p_0_1488 : zP1 0 1488 = some (.ireturn, 0, 0, 0) := zp_l zq_0 rfl
theorem p_0_1489 : zP1 0 1489 = some (.aload_n 1, 0, 0, 0) := zp_l zq_0 rfl
theorem p_0_1490 : zP1 0 1490 = some (.aload_n 0, 0, 0, 0) := zp_l zq_0 rfl
theorem p_0_1491 : zP1 0 1491 = some (.iload_n 3, 0, 0, 0) := zp_l zq_0 rfl
theorem p_0_1492 : zP1 0 1492 = some (.iconst 1, 0, 0, 0) := zp_l zq_0 rfl
theorem p_0_1493 : zP1 0 1493 = some (.iadd, 0, 0, 0) := zp_l zq_0 rfl
theorem p_0_1494 : zP1 0 1494 = some (.iaload, 0, 0, 0) := zp_l zq_0 rfl
theorem p_0_1495 : zP1 0 1495 = some (.aload_n 0, 0, 0, 0) := zp_l zq_0 rfl
theorem p_0_1496 : zP1 0 1496 = some (.iload_n 3, 0, 0, 0) := zp_l zq_0 rfl
theorem p_0_1497 : zP1 0 1497 = some (.iconst 2, 0, 0, 0) := zp_l zq_0 rfl
theorem p_0_1498 : zP1 0 1498 = some (.iadd, 0, 0, 0) := zp_l zq_0 rfl
theorem p_0_1499 : zP1 0 1499 = some (.iaload, 0, 0, 0) := zp_l zq_0 rfl
theorem p_0_1500 : zP1 0 1500 = some (.aload_n 0, 0, 0, 0) := zp_l zq_0 rfl
theorem p_0_1501 : zP1 0 1501 = some (.iload_n 3, 0, 0, 0) := zp_l zq_0 rfl
theorem p_0_1502 : zP1 0 1502 = some (.iconst 3, 0, 0, 0) := zp_l zq_0 rfl
theorem p_0_1503 : zP1 0 1503 = some (.iadd, 0, 0, 0) := zp_l zq_0 rfl
theorem p_0_1504 : zP1 0 1504 = some (.iaload, 0, 0, 0) := zp_l zq_0 rfl
theorem p_0_1505 : zP1 0 1505 = some (.invokevirtual 153, 172, 3, 10) := zp_r zq_0 rfl
theorem p_0_1508 : zP1 0 1508 = some (.aload_n 2, 0, 0, 0) := zp_l zq_0 rfl
theorem p_0_1509 : zP1 0 1509 = some (.aload_n 0, 0, 0, 0) := zp_l zq_0 rfl
theorem p_0_1510 : zP1 0 1510 = some (.iload_n 3, 0, 0, 0) := zp_l zq_0 rfl
theorem p_0_1511 : zP1 0 1511 = some (.iconst 1, 0, 0, 0) := zp_l zq_0 rfl
theorem p_0_1512 : zP1 0 1512 = some (.iadd, 0, 0, 0) := zp_l zq_0 rfl
theorem p_0_1513 : zP1 0 1513 = some (.iaload, 0, 0, 0) := zp_l zq_0 rfl
theorem p_0_1514 : zP1 0 1514 = some (.aload_n 0, 0, 0, 0) := zp_l zq_0 rfl
theorem p_0_1515 : zP1 0 1515 = some (.iload_n 3, 0, 0, 0) := zp_l zq_0 rfl
theorem p_0_1516 : zP1 0 1516 = some (.iconst 2, 0, 0, 0) := zp_l zq_0 rfl
theorem p_0_1517 : zP1 0 1517 = some (.iadd, 0, 0, 0) := zp_l zq_0 rfl
theorem p_0_1518 : zP1 0 1518 = some (.iaload, 0, 0, 0) := zp_l zq_0 rfl
theorem p_0_1519 : zP1 0 1519 = some (.aload_n 0, 0, 0, 0) := zp_l zq_0 rfl
theorem p_0_1520 : zP1 0 1520 = some (.iload_n 3, 0, 0, 0) := zp_l zq_0 rfl
theorem p_0_1521 : zP1 0 1521 = some (.iconst 3, 0, 0, 0) := zp_l zq_0 rfl
theorem p_0_1522 : zP1 0 1522 = some (.iadd, 0, 0, 0) := zp_l zq_0 rfl
theorem p_0_1523 : zP1 0 1523 = some (.iaload, 0, 0, 0) := zp_l zq_0 rfl
theorem p_0_1524 : zP1 0 1524 = some (.invokevirtual 156, 288, 3, 11) := zp_r zq_0 rfl
theorem p_0_1527 : zP1 0 1527 = some (.if_icmp .eq 618, 0, 0, 0) := zp_l zq_0 rfl
theorem p_0_1530 : zP1 0 1530 = some (.iconst 0, 0, 0, 0) := zp_l zq_0 rfl
theorem p_0_1531 : zP1 0 1531 = some (.ireturn, 0, 0, 0) := zp_l zq_0 rfl
theorem p_0_1532 : zP1 0 1532 = some (.aload_n 1, 0, 0, 0) := zp_l zq_0 rfl
theorem p_0_1533 : zP1 0 1533 = some (.invokevirtual 157, 173, 0, 10) := zp_r zq_0 rfl
theorem p_0_1536 : zP1 0 1536 = some (.aload_n 2, 0, 0, 0) := zp_l zq_0 rfl
theorem p_0_1537 : zP1 0 1537 = some (.invokevirtual 161, 289, 0, 11) := zp_r zq_0 rfl
theorem p_0_1540 : zP1 0 1540 = some (.if_icmp .eq 605, 0, 0, 0) := zp_l zq_0 rfl
theorem p_0_1543 : zP1 0 1543 = some (.iconst 0, 0, 0, 0) := zp_l zq_0 rfl
theorem p_0_1544 : zP1 0 1544 = some (.ireturn, 0, 0, 0) := zp_l zq_0 rfl
theorem p_0_1545 : zP1 0 1545 = some (.aload_n 1, 0, 0, 0) := zp_l zq_0 rfl
theorem p_0_1546 : zP1 0 1546 = some (.invokevirtual 162, 174, 0, 10) := zp_r zq_0 rfl
theorem p_0_1549 : zP1 0 1549 = some (.aload_n 2, 0, 0, 0) := zp_l zq_0 rfl
theorem p_0_1550 : zP1 0 1550 = some (.invokevirtual 165, 290, 0, 11) := zp_r zq_0 rfl
theorem p_0_1553 : zP1 0 1553 = some (.if_icmp .eq 592, 0, 0, 0) := zp_l zq_0 rfl
theorem p_0_1556 : zP1 0 1556 = some (.iconst 0, 0, 0, 0) := zp_l zq_0 rfl
theorem p_0_1557 : zP1 0 1557 = some (.ireturn, 0, 0, 0) := zp_l zq_0 rfl
theorem p_0_1558 : zP1 0 1558 = some (.aload_n 1, 0, 0, 0) := zp_l zq_0 rfl
theorem p_0_1559 : zP1 0 1559 = some (.aload_n 0, 0, 0, 0) := zp_l zq_0 rfl
theorem p_0_1560 : zP1 0 1560 = some (.iload_n 3, 0, 0, 0) := zp_l zq_0 rfl
theorem p_0_1561 : zP1 0 1561 = some (.iconst 1, 0, 0, 0) := zp_l zq_0 rfl
theorem p_0_1562 : zP1 0 1562 = some (.iadd, 0, 0, 0) := zp_l zq_0 rfl
theorem p_0_1563 : zP1 0 1563 = some (.iaload, 0, 0, 0) := zp_l zq_0 rfl
theorem p_0_1564 : zP1 0 1564 = some (.invokevirtual 166, 175, 1, 10) := zp_r zq_0 rfl
theorem p_0_1567 : zP1 0 1567 = some (.aload_n 2, 0, 0, 0) := zp_l zq_0 rfl
theorem p_0_1568 : zP1 0 1568 = some (.aload_n 0, 0, 0, 0) := zp_l zq_0 rfl
theorem p_0_1569 : zP1 0 1569 = some (.iload_n 3, 0, 0, 0) := zp_l zq_0 rfl
theorem p_0_1570 : zP1 0 1570 = some (.iconst 1, 0, 0, 0) := zp_l zq_0 rfl
theorem p_0_1571 : zP1 0 1571 = some (.iadd, 0, 0, 0) := zp_l zq_0 rfl
theorem p_0_1572 : zP1 0 1572 = some (.iaload, 0, 0, 0) := zp_l zq_0 rfl
theorem p_0_1573 : zP1 0 1573 = some (.invokevirtual 169, 291, 1, 11) := zp_r zq_0 rfl
theorem p_0_1576 : zP1 0 1576 = some (.if_icmp .eq 569, 0, 0, 0) := zp_l zq_0 rfl
theorem p_0_1579 : zP1 0 1579 = some (.iconst 0, 0, 0, 0) := zp_l zq_0 rfl
theorem p_0_1580 : zP1 0 1580 = some (.ireturn, 0, 0, 0) := zp_l zq_0 rfl
theorem p_0_1581 : zP1 0 1581 = some (.aload_n 1, 0, 0, 0) := zp_l zq_0 rfl
theorem p_0_1582 : zP1 0 1582 = some (.invokevirtual 170, 176, 0, 10) := zp_r zq_0 rfl
theorem p_0_1585 : zP1 0 1585 = some (.aload_n 2, 0, 0, 0) := zp_l zq_0 rfl
theorem p_0_1586 : zP1 0 1586 = some (.invokevirtual 173, 292, 0, 11) := zp_r zq_0 rfl
theorem p_0_1589 : zP1 0 1589 = some (.if_icmp .eq 556, 0, 0, 0) := zp_l zq_0 rfl
theorem p_0_1592 : zP1 0 1592 = some (.iconst 0, 0, 0, 0) := zp_l zq_0 rfl
theorem p_0_1593 : zP1 0 1593 = some (.ireturn, 0, 0, 0) := zp_l zq_0 rfl
theorem p_0_1594 : zP1 0 1594 = some (.aload_n 1, 0, 0, 0) := zp_l zq_0 rfl
theorem p_0_1595 : zP1 0 1595 = some (.aload_n 0, 0, 0, 0) := zp_l zq_0 rfl
theorem p_0_1596 : zP1 0 1596 = some (.iload_n 3, 0, 0, 0) := zp_l zq_0 rfl
theorem p_0_1597 : zP1 0 1597 = some (.iconst 1, 0, 0, 0) := zp_l zq_0 rfl
theorem p_0_1598 : zP1 0 1598 = some (.iadd, 0, 0, 0) := zp_l zq_0 rfl
theorem p_0_1599 : zP1 0 1599 = some (.iaload, 0, 0, 0) := zp_l zq_0 rfl
theorem p_0_1600 : zP1 0 1600 = some (.aload_n 0, 0, 0, 0) := zp_l zq_0 rfl
theorem p_0_1601 : zP1 0 1601 = some (.iload_n 3, 0, 0, 0) := zp_l zq_0 rfl
theorem p_0_1602 : zP1 0 1602 = some (.iconst 2, 0, 0, 0) := zp_l zq_0 rfl
theorem p_0_1603 : zP1 0 1603 = some (.iadd, 0, 0, 0) := zp_l zq_0 rfl
theorem p_0_1604 : zP1 0 1604 = some (.iaload, 0, 0, 0) := zp_l zq_0 rfl
theorem p_0_1605 : zP1 0 1605 = some (.invokevirtual 174, 177, 2, 10) := zp_r zq_0 rfl
theorem p_0_1608 : zP1 0 1608 = some (.aload_n 2, 0, 0, 0) := zp_l zq_0 rfl
theorem p_0_1609 : zP1 0 1609 = some (.aload_n 0, 0, 0, 0) := zp_l zq_0 rfl
theorem p_0_1610 : zP1 0 1610 = some (.iload_n 3, 0, 0, 0) := zp_l zq_0 rfl
theorem p_0_1611 : zP1 0 1611 = some (.iconst 1, 0, 0, 0) := zp_l zq_0 rfl
theorem p_0_1612 : zP1 0 1612 = some (.iadd, 0, 0, 0) := zp_l zq_0 rfl
theorem p_0_1613 : zP1 0 1613 = some (.iaload, 0, 0, 0) := zp_l zq_0 rfl
theorem p_0_1614 : zP1 0 1614 = some (.aload_n 0, 0, 0, 0) := zp_l zq_0 rfl
theorem p_0_1615 : zP1 0 1615 = some (.iload_n 3, 0, 0, 0) := zp_l zq_0 rfl
theorem p_0_1616 : zP1 0 1616 = some (.iconst 2, 0, 0, 0) := zp_l zq_0 rfl
theorem p_0_1617 : zP1 0 1617 = some (.iadd, 0, 0, 0) := zp_l zq_0 rfl
theorem p_0_1618 : zP1 0 1618 = some (.iaload, 0, 0, 0) := zp_l zq_0 rfl
theorem p_0_1619 : zP1 0 1619 = some (.invokevirtual 177, 293, 2, 11) := zp_r zq_0 rfl
theorem p_0_1622 : zP1 0 1622 = some (.if_icmp .eq 523, 0, 0, 0) := zp_l zq_0 rfl
theorem p_0_1625 : zP1 0 1625 = some (.iconst 0, 0, 0, 0) := zp_l zq_0 rfl
theorem p_0_1626 : zP1 0 1626 = some (.ireturn, 0, 0, 0) := zp_l zq_0 rfl
theorem p_0_1627 : zP1 0 1627 = some (.aload_n 1, 0, 0, 0) := zp_l zq_0 rfl
theorem p_0_1628 : zP1 0 1628 = some (.aload_n 0, 0, 0, 0) := zp_l zq_0 rfl
theorem p_0_1629 : zP1 0 1629 = some (.iload_n 3, 0, 0, 0) := zp_l zq_0 rfl
theorem p_0_1630 : zP1 0 1630 = some (.iconst 1, 0, 0, 0) := zp_l zq_0 rfl
theorem p_0_1631 : zP1 0 1631 = some (.iadd, 0, 0, 0) := zp_l zq_0 rfl
theorem p_0_1632 : zP1 0 1632 = some (.iaload, 0, 0, 0) := zp_l zq_0 rfl
theorem p_0_1633 : zP1 0 1633 = some (.aload_n 0, 0, 0, 0) := zp_l zq_0 rfl
theorem p_0_1634 : zP1 0 1634 = some (.iload_n 3, 0, 0, 0) := zp_l zq_0 rfl
theorem p_0_1635 : zP1 0 1635 = some (.iconst 2, 0, 0, 0) := zp_l zq_0 rfl
theorem p_0_1636 : zP1 0 1636 = some (.iadd, 0, 0, 0) := zp_l zq_0 rfl
theorem p_0_1637 : zP1 0 1637 = some (.iaload, 0, 0, 0) := zp_l zq_0 rfl
theorem p_0_1638 : zP1 0 1638 = some (.invokevirtual 178, 178, 2, 10) := zp_r zq_0 rfl
theorem p_0_1641 : zP1 0 1641 = some (.aload_n 2, 0, 0, 0) := zp_l zq_0 rfl
theorem p_0_1642 : zP1 0 1642 = some (.aload_n 0, 0, 0, 0) := zp_l zq_0 rfl
theorem p_0_1643 : zP1 0 1643 = some (.iload_n 3, 0, 0, 0) := zp_l zq_0 rfl
theorem p_0_1644 : zP1 0 1644 = some (.iconst 1, 0, 0, 0) := zp_l zq_0 rfl
theorem p_0_1645 : zP1 0 1645 = some (.iadd, 0, 0, 0) := zp_l zq_0 rfl
theorem p_0_1646 : zP1 0 1646 = some (.iaload, 0, 0, 0) := zp_l zq_0 rfl
theorem p_0_1647 : zP1 0 1647 = some (.aload_n 0, 0, 0, 0) := zp_l zq_0 rfl
theorem p_0_1648 : zP1 0 1648 = some (.iload_n 3, 0, 0, 0) := zp_l zq_0 rfl
theorem p_0_1649 : zP1 0 1649 = some (.iconst 2, 0, 0, 0) := zp_l zq_0 rfl
theorem p_0_1650 : zP1 0 1650 = some (.iadd, 0, 0, 0) := zp_l zq_0 rfl
theorem p_0_1651 : zP1 0 1651 = some (.iaload, 0, 0, 0) := zp_l zq_0 rfl
theorem p_0_1652 : zP1 0 1652 = some (.invokevirtual 181, 294, 2, 11) := zp_r zq_0 rfl
theorem p_0_1655 : zP1 0 1655 = some (.if_icmp .eq 490, 0, 0, 0) := zp_l zq_0 rfl
theorem p_0_1658 : zP1 0 1658 = some (.iconst 0, 0, 0, 0) := zp_l zq_0 rfl
theorem p_0_1659 : zP1 0 1659 = some (.ireturn, 0, 0, 0) := zp_l zq_0 rfl
theorem p_0_1660 : zP1 0 1660 = some (.aload_n 1, 0, 0, 0) := zp_l zq_0 rfl
theorem p_0_1661 : zP1 0 1661 = some (.aload_n 0, 0, 0, 0) := zp_l zq_0 rfl
theorem p_0_1662 : zP1 0 1662 = some (.iload_n 3, 0, 0, 0) := zp_l zq_0 rfl
theorem p_0_1663 : zP1 0 1663 = some (.iconst 1, 0, 0, 0) := zp_l zq_0 rfl
theorem p_0_1664 : zP1 0 1664 = some (.iadd, 0, 0, 0) := zp_l zq_0 rfl
theorem p_0_1665 : zP1 0 1665 = some (.iaload, 0, 0, 0) := zp_l zq_0 rfl
theorem p_0_1666 : zP1 0 1666 = some (.aload_n 0, 0, 0, 0) := zp_l zq_0 rfl
theorem p_0_1667 : zP1 0 1667 = some (.iload_n 3, 0, 0, 0) := zp_l zq_0 rfl
theorem p_0_1668 : zP1 0 1668 = some (.iconst 2, 0, 0, 0) := zp_l zq_0 rfl
theorem p_0_1669 : zP1 0 1669 = some (.iadd, 0, 0, 0) := zp_l zq_0 rfl
theorem p_0_1670 : zP1 0 1670 = some (.iaload, 0, 0, 0) := zp_l zq_0 rfl
theorem p_0_1671 : zP1 0 1671 = some (.aload_n 0, 0, 0, 0) := zp_l zq_0 rfl
theorem p_0_1672 : zP1 0 1672 = some (.iload_n 3, 0, 0, 0) := zp_l zq_0 rfl
theorem p_0_1673 : zP1 0 1673 = some (.iconst 3, 0, 0, 0) := zp_l zq_0 rfl
theorem p_0_1674 : zP1 0 1674 = some (.iadd, 0, 0, 0) := zp_l zq_0 rfl
theorem p_0_1675 : zP1 0 1675 = some (.iaload, 0, 0, 0) := zp_l zq_0 rfl
theorem p_0_1676 : zP1 0 1676 = some (.invokevirtual 182, 179, 3, 10) := zp_r zq_0 rfl
theorem p_0_1679 : zP1 0 1679 = some (.aload_n 2, 0, 0, 0) := zp_l zq_0 rfl
theorem p_0_1680 : zP1 0 1680 = some (.aload_n 0, 0, 0, 0) := zp_l zq_0 rfl
theorem p_0_1681 : zP1 0 1681 = some (.iload_n 3, 0, 0, 0) := zp_l zq_0 rfl
theorem p_0_1682 : zP1 0 1682 = some (.iconst 1, 0, 0, 0) := zp_l zq_0 rfl
theorem p_0_1683 : zP1 0 1683 = some (.iadd, 0, 0, 0) := zp_l zq_0 rfl
theorem p_0_1684 : zP1 0 1684 = some (.iaload, 0, 0, 0) := zp_l zq_0 rfl
theorem p_0_1685 : zP1 0 1685 = some (.aload_n 0, 0, 0, 0) := zp_l zq_0 rfl
theorem p_0_1686 : zP1 0 1686 = some (.iload_n 3, 0, 0, 0) := zp_l zq_0 rfl
theorem p_0_1687 : zP1 0 1687 = some (.iconst 2, 0, 0, 0) := zp_l zq_0 rfl
theorem p_0_1688 : zP1 0 1688 = some (.iadd, 0, 0, 0) := zp_l zq_0 rfl
theorem p_0_1689 : zP1 0 1689 = some (.iaload, 0, 0, 0) := zp_l zq_0 rfl
theorem p_0_1690 : zP1 0 1690 = some (.aload_n 0, 0, 0, 0) := zp_l zq_0 rfl
theorem p_0_1691 : zP1 0 1691 = some (.iload_n 3, 0, 0, 0) := zp_l zq_0 rfl
theorem p_0_1692 : zP1 0 1692 = some (.iconst 3, 0, 0, 0) := zp_l zq_0 rfl
theorem p_0_1693 : zP1 0 1693 = some (.iadd, 0, 0, 0) := zp_l zq_0 rfl
theorem p_0_1694 : zP1 0 1694 = some (.iaload, 0, 0, 0) := zp_l zq_0 rfl
theorem p_0_1695 : zP1 0 1695 = some (.invokevirtual 185, 295, 3, 11) := zp_r zq_0 rfl
theorem p_0_1698 : zP1 0 1698 = some (.if_icmp .eq 447, 0, 0, 0) := zp_l zq_0 rfl
theorem p_0_1701 : zP1 0 1701 = some (.iconst 0, 0, 0, 0) := zp_l zq_0 rfl
theorem p_0_1702 : zP1 0 1702 = some (.ireturn, 0, 0, 0) := zp_l zq_0 rfl
theorem p_0_1703 : zP1 0 1703 = some (.aload_n 1, 0, 0, 0) := zp_l zq_0 rfl
theorem p_0_1704 : zP1 0 1704 = some (.aload_n 0, 0, 0, 0) := zp_l zq_0 rfl
theorem p_0_1705 : zP1 0 1705 = some (.iload_n 3, 0, 0, 0) := zp_l zq_0 rfl
theorem p_0_1706 : zP1 0 1706 = some (.iconst 1, 0, 0, 0) := zp_l zq_0 rfl
theorem p_0_1707 : zP1 0 1707 = some (.iadd, 0, 0, 0) := zp_l zq_0 rfl
theorem p_0_1708 : zP1 0 1708 = some (.iaload, 0, 0, 0) := zp_l zq_0 rfl
theorem p_0_1709 : zP1 0 1709 = some (.invokevirtual 186, 180, 1, 10) := zp_r zq_0 rfl
theorem p_0_1712 : zP1 0 1712 = some (.aload_n 2, 0, 0, 0) := zp_l zq_0 rfl
theorem p_0_1713 : zP1 0 1713 = some (.aload_n 0, 0, 0, 0) := zp_l zq_0 rfl
theorem p_0_1714 : zP1 0 1714 = some (.iload_n 3, 0, 0, 0) := zp_l zq_0 rfl
theorem p_0_1715 : zP1 0 1715 = some (.iconst 1, 0, 0, 0) := zp_l zq_0 rfl
theorem p_0_1716 : zP1 0 1716 = some (.iadd, 0, 0, 0) := zp_l zq_0 rfl
theorem p_0_1717 : zP1 0 1717 = some (.iaload, 0, 0, 0) := zp_l zq_0 rfl
theorem p_0_1718 : zP1 0 1718 = some (.invokevirtual 189, 296, 1, 11) := zp_r zq_0 rfl
theorem p_0_1721 : zP1 0 1721 = some (.if_icmp .eq 424, 0, 0, 0) := zp_l zq_0 rfl
theorem p_0_1724 : zP1 0 1724 = some (.iconst 0, 0, 0, 0) := zp_l zq_0 rfl
theorem p_0_1725 : zP1 0 1725 = some (.ireturn, 0, 0, 0) := zp_l zq_0 rfl
theorem p_0_1726 : zP1 0 1726 = some (.aload_n 1, 0, 0, 0) := zp_l zq_0 rfl
theorem p_0_1727 : zP1 0 1727 = some (.aload_n 0, 0, 0, 0) := zp_l zq_0 rfl
theorem p_0_1728 : zP1 0 1728 = some (.iload_n 3, 0, 0, 0) := zp_l zq_0 rfl
theorem p_0_1729 : zP1 0 1729 = some (.iconst 1, 0, 0, 0) := zp_l zq_0 rfl
theorem p_0_1730 : zP1 0 1730 = some (.iadd, 0, 0, 0) := zp_l zq_0 rfl
theorem p_0_1731 : zP1 0 1731 = some (.iaload, 0, 0, 0) := zp_l zq_0 rfl
theorem p_0_1732 : zP1 0 1732 = some (.aload_n 0, 0, 0, 0) := zp_l zq_0 rfl
theorem p_0_1733 : zP1 0 1733 = some (.iload_n 3, 0, 0, 0) := zp_l zq_0 rfl
theorem p_0_1734 : zP1 0 1734 = some (.iconst 2, 0, 0, 0) := zp_l zq_0 rfl
theorem p_0_1735 : zP1 0 1735 = some (.iadd, 0, 0, 0) := zp_l zq_0 rfl
theorem p_0_1736 : zP1 0 1736 = some (.iaload, 0, 0, 0) := zp_l zq_0 rfl
theorem p_0_1737 : zP1 0 1737 = some (.invokevirtual 190, 181, 2, 10) := zp_r zq_0 rfl
theorem p_0_1740 : zP1 0 1740 = some (.aload_n 2, 0, 0, 0) := zp_l zq_0 rfl
theorem p_0_1741 : zP1 0 1741 = some (.aload_n 0, 0, 0, 0) := zp_l zq_0 rfl
theorem p_0_1742 : zP1 0 1742 = some (.iload_n 3, 0, 0, 0) := zp_l zq_0 rfl
theorem p_0_1743 : zP1 0 1743 = some (.iconst 1, 0, 0, 0) := zp_l zq_0 rfl
theorem p_0_1744 : zP1 0 1744 = some (.iadd, 0, 0, 0) := zp_l zq_0 rfl
theorem p_0_1745 : zP1 0 1745 = some (.iaload, 0, 0, 0) := zp_l zq_0 rfl
theorem p_0_1746 : zP1 0 1746 = some (.aload_n 0, 0, 0, 0) := zp_l zq_0 rfl
theorem p_0_1747 : zP1 0 1747 = some (.iload_n 3, 0, 0, 0) := zp_l zq_0 rfl
theorem p_0_1748 : zP1 0 1748 = some (.iconst 2, 0, 0, 0) := zp_l zq_0 rfl
theorem p_0_1749 : zP1 0 1749 = some (.iadd, 0, 0, 0) := zp_l zq_0 rfl
theorem p_0_1750 : zP1 0 1750 = some (.iaload, 0, 0, 0) := zp_l zq_0 rfl
theorem p_0_1751 : zP1 0 1751 = some (.invokevirtual 193, 298, 2, 11) := zp_r zq_0 rfl
theorem p_0_1754 : zP1 0 1754 = some (.if_icmp .eq 391, 0, 0, 0) := zp_l zq_0 rfl
theorem p_0_1757 : zP1 0 1757 = some (.iconst 0, 0, 0, 0) := zp_l zq_0 rfl
theorem p_0_1758 : zP1 0 1758 = some (.ireturn, 0, 0, 0) := zp_l zq_0 rfl
theorem p_0_1759 : zP1 0 1759 = some (.aload_n 1, 0, 0, 0) := zp_l zq_0 rfl
theorem p_0_1760 : zP1 0 1760 = some (.aload_n 0, 0, 0, 0) := zp_l zq_0 rfl
theorem p_0_1761 : zP1 0 1761 = some (.iload_n 3, 0, 0, 0) := zp_l zq_0 rfl
theorem p_0_1762 : zP1 0 1762 = some (.iconst 1, 0, 0, 0) := zp_l zq_0 rfl
theorem p_0_1763 : zP1 0 1763 = some (.iadd, 0, 0, 0) := zp_l zq_0 rfl
theorem p_0_1764 : zP1 0 1764 = some (.iaload, 0, 0, 0) := zp_l zq_0 rfl
theorem p_0_1765 : zP1 0 1765 = some (.aload_n 0, 0, 0, 0) := zp_l zq_0 rfl
theorem p_0_1766 : zP1 0 1766 = some (.iload_n 3, 0, 0, 0) := zp_l zq_0 rfl
theorem p_0_1767 : zP1 0 1767 = some (.iconst 2, 0, 0, 0) := zp_l zq_0 rfl
theorem p_0_1768 : zP1 0 1768 = some (.iadd, 0, 0, 0) := zp_l zq_0 rfl
theorem p_0_1769 : zP1 0 1769 = some (.iaload, 0, 0, 0) := zp_l zq_0 rfl
theorem p_0_1770 : zP1 0 1770 = some (.invokevirtual 194, 182, 2, 10) := zp_r zq_0 rfl
theorem p_0_1773 : zP1 0 1773 = some (.aload_n 2, 0, 0, 0) := zp_l zq_0 rfl
theorem p_0_1774 : zP1 0 1774 = some (.aload_n 0, 0, 0, 0) := zp_l zq_0 rfl
theorem p_0_1775 : zP1 0 1775 = some (.iload_n 3, 0, 0, 0) := zp_l zq_0 rfl
theorem p_0_1776 : zP1 0 1776 = some (.iconst 1, 0, 0, 0) := zp_l zq_0 rfl
theorem p_0_1777 : zP1 0 1777 = some (.iadd, 0, 0, 0) := zp_l zq_0 rfl
theorem p_0_1778 : zP1 0 1778 = some (.iaload, 0, 0, 0) := zp_l zq_0 rfl
theorem p_0_1779 : zP1 0 1779 = some (.aload_n 0, 0, 0, 0) := zp_l zq_0 rfl
theorem p_0_1780 : zP1 0 1780 = some (.iload_n 3, 0, 0, 0) := zp_l zq_0 rfl
theorem p_0_1781 : zP1 0 1781 = some (.iconst 2, 0, 0, 0) := zp_l zq_0 rfl
theorem p_0_1782 : zP1 0 1782 = some (.iadd, 0, 0, 0) := zp_l zq_0 rfl
theorem p_0_1783 : zP1 0 1783 = some (.iaload, 0, 0, 0) := zp_l zq_0 rfl
theorem p_0_1784 : zP1 0 1784 = some (.invokevirtual 197, 299, 2, 11) := zp_r zq_0 rfl
theorem p_0_1787 : zP1 0 1787 = some (.if_icmp .eq 358, 0, 0, 0) := zp_l zq_0 rfl
theorem p_0_1790 : zP1 0 1790 = some (.iconst 0, 0, 0, 0) := zp_l zq_0 rfl
theorem p_0_1791 : zP1 0 1791 = some (.ireturn, 0, 0, 0) := zp_l zq_0 rfl
theorem p_0_1792 : zP1 0 1792 = some (.aload_n 1, 0, 0, 0) := zp_l zq_0 rfl
theorem p_0_1793 : zP1 0 1793 = some (.aload_n 0, 0, 0, 0) := zp_l zq_0 rfl
theorem p_0_1794 : zP1 0 1794 = some (.iload_n 3, 0, 0, 0) := zp_l zq_0 rfl
theorem p_0_1795 : zP1 0 1795 = some (.iconst 1, 0, 0, 0) := zp_l zq_0 rfl
theorem p_0_1796 : zP1 0 1796 = some (.iadd, 0, 0, 0) := zp_l zq_0 rfl
theorem p_0_1797 : zP1 0 1797 = some (.iaload, 0, 0, 0) := zp_l zq_0 rfl
theorem p_0_1798 : zP1 0 1798 = some (.aload_n 0, 0, 0, 0) := zp_l zq_0 rfl
theorem p_0_1799 : zP1 0 1799 = some (.iload_n 3, 0, 0, 0) := zp_l zq_0 rfl
theorem p_0_1800 : zP1 0 1800 = some (.iconst 2, 0, 0, 0) := zp_l zq_0 rfl
theorem p_0_1801 : zP1 0 1801 = some (.iadd, 0, 0, 0) := zp_l zq_0 rfl
theorem p_0_1802 : zP1 0 1802 = some (.iaload, 0, 0, 0) := zp_l zq_0 rfl
theorem p_0_1803 : zP1 0 1803 = some (.aload_n 0, 0, 0, 0) := zp_l zq_0 rfl
theorem p_0_1804 : zP1 0 1804 = some (.iload_n 3, 0, 0, 0) := zp_l zq_0 rfl
theorem p_0_1805 : zP1 0 1805 = some (.iconst 3, 0, 0, 0) := zp_l zq_0 rfl
theorem p_0_1806 : zP1 0 1806 = some (.iadd, 0, 0, 0) := zp_l zq_0 rfl
theorem p_0_1807 : zP1 0 1807 = some (.iaload, 0, 0, 0) := zp_l zq_0 rfl
theorem p_0_1808 : zP1 0 1808 = some (.invokevirtual 198, 183, 3, 10) := zp_r zq_0 rfl
theorem p_0_1811 : zP1 0 1811 = some (.aload_n 2, 0, 0, 0) := zp_l zq_0 rfl
theorem p_0_1812 : zP1 0 1812 = some (.aload_n 0, 0, 0, 0) := zp_l zq_0 rfl
theorem p_0_1813 : zP1 0 1813 = some (.iload_n 3, 0, 0, 0) := zp_l zq_0 rfl
theorem p_0_1814 : zP1 0 1814 = some (.iconst 1, 0, 0, 0) := zp_l zq_0 rfl
theorem p_0_1815 : zP1 0 1815 = some (.iadd, 0, 0, 0) := zp_l zq_0 rfl
theorem p_0_1816 : zP1 0 1816 = some (.iaload, 0, 0, 0) := zp_l zq_0 rfl
theorem p_0_1817 : zP1 0 1817 = some (.aload_n 0, 0, 0, 0) := zp_l zq_0 rfl
theorem p_0_1818 : zP1 0 1818 = some (.iload_n 3, 0, 0, 0) := zp_l zq_0 rfl
theorem p_0_1819 : zP1 0 1819 = some (.iconst 2, 0, 0, 0) := zp_l zq_0 rfl
theorem p_0_1820 : zP1 0 1820 = some (.iadd, 0, 0, 0) := zp_l zq_0 rfl
theorem p_0_1821 : zP1 0 1821 = some (.iaload, 0, 0, 0) := zp_l zq_0 rfl
theorem p_0_1822 : zP1 0 1822 = some (.aload_n 0, 0, 0, 0) := zp_l zq_0 rfl
theorem p_0_1823 : zP1 0 1823 = some (.iload_n 3, 0, 0, 0) := zp_l zq_0 rfl
theorem p_0_1824 : zP1 0 1824 = some (.iconst 3, 0, 0, 0) := zp_l zq_0 rfl
theorem p_0_1825 : zP1 0 1825 = some (.iadd, 0, 0, 0) := zp_l zq_0 rfl
theorem p_0_1826 : zP1 0 1826 = some (.iaload, 0, 0, 0) := zp_l zq_0 rfl
theorem p_0_1827 : zP1 0 1827 = some (.invokevirtual 201, 301, 3, 11) := zp_r zq_0 rfl
theorem p_0_1830 : zP1 0 1830 = some (.if_icmp .eq 315, 0, 0, 0) := zp_l zq_0 rfl
theorem p_0_1833 : zP1 0 1833 = some (.iconst 0, 0, 0, 0) := zp_l zq_0 rfl
theorem p_0_1834 : zP1 0 1834 = some (.ireturn, 0, 0, 0) := zp_l zq_0 rfl
theorem p_0_1835 : zP1 0 1835 = some (.aload_n 1, 0, 0, 0) := zp_l zq_0 rfl
theorem p_0_1836 : zP1 0 1836 = some (.aload_n 0, 0, 0, 0) := zp_l zq_0 rfl
theorem p_0_1837 : zP1 0 1837 = some (.iload_n 3, 0, 0, 0) := zp_l zq_0 rfl
theorem p_0_1838 : zP1 0 1838 = some (.iconst 1, 0, 0, 0) := zp_l zq_0 rfl
theorem p_0_1839 : zP1 0 1839 = some (.iadd, 0, 0, 0) := zp_l zq_0 rfl
theorem p_0_1840 : zP1 0 1840 = some (.iaload, 0, 0, 0) := zp_l zq_0 rfl
theorem p_0_1841 : zP1 0 1841 = some (.aload_n 0, 0, 0, 0) := zp_l zq_0 rfl
theorem p_0_1842 : zP1 0 1842 = some (.iload_n 3, 0, 0, 0) := zp_l zq_0 rfl
theorem p_0_1843 : zP1 0 1843 = some (.iconst 2, 0, 0, 0) := zp_l zq_0 rfl
theorem p_0_1844 : zP1 0 1844 = some (.iadd, 0, 0, 0) := zp_l zq_0 rfl
theorem p_0_1845 : zP1 0 1845 = some (.iaload, 0, 0, 0) := zp_l zq_0 rfl
theorem p_0_1846 : zP1 0 1846 = some (.aload_n 0, 0, 0, 0) := zp_l zq_0 rfl
theorem p_0_1847 : zP1 0 1847 = some (.iload_n 3, 0, 0, 0) := zp_l zq_0 rfl
theorem p_0_1848 : zP1 0 1848 = some (.iconst 3, 0, 0, 0) := zp_l zq_0 rfl
theorem p_0_1849 : zP1 0 1849 = some (.iadd, 0, 0, 0) := zp_l zq_0 rfl
theorem p_0_1850 : zP1 0 1850 = some (.iaload, 0, 0, 0) := zp_l zq_0 rfl
theorem p_0_1851 : zP1 0 1851 = some (.invokevirtual 202, 184, 3, 10) := zp_r zq_0 rfl
theorem p_0_1854 : zP1 0 1854 = some (.aload_n 2, 0, 0, 0) := zp_l zq_0 rfl
theorem p_0_1855 : zP1 0 1855 = some (.aload_n 0, 0, 0, 0) := zp_l zq_0 rfl
theorem p_0_1856 : zP1 0 1856 = some (.iload_n 3, 0, 0, 0) := zp_l zq_0 rfl
theorem p_0_1857 : zP1 0 1857 = some (.iconst 1, 0, 0, 0) := zp_l zq_0 rfl
theorem p_0_1858 : zP1 0 1858 = some (.iadd, 0, 0, 0) := zp_l zq_0 rfl
theorem p_0_1859 : zP1 0 1859 = some (.iaload, 0, 0, 0) := zp_l zq_0 rfl
theorem p_0_1860 : zP1 0 1860 = some (.aload_n 0, 0, 0, 0) := zp_l zq_0 rfl
theorem p_0_1861 : zP1 0 1861 = some (.iload_n 3, 0, 0, 0) := zp_l zq_0 rfl
theorem p_0_1862 : zP1 0 1862 = some (.iconst 2, 0, 0, 0) := zp_l zq_0 rfl
theorem p_0_1863 : zP1 0 1863 = some (.iadd, 0, 0, 0) := zp_l zq_0 rfl
theorem p_0_1864 : zP1 0 1864 = some (.iaload, 0, 0, 0) := zp_l zq_0 rfl
theorem p_0_1865 : zP1 0 1865 = some (.aload_n 0, 0, 0, 0) := zp_l zq_0 rfl
theorem p_0_1866 : zP1 0 1866 = some (.iload_n 3, 0, 0, 0) := zp_l zq_0 rfl
theorem p_0_1867 : zP1 0 1867 = some (.iconst 3, 0, 0, 0) := zp_l zq_0 rfl
theorem p_0_1868 : zP1 0 1868 = some (.iadd, 0, 0, 0) := zp_l zq_0 rfl
theorem p_0_1869 : zP1 0 1869 = some (.iaload, 0, 0, 0) := zp_l zq_0 rfl
theorem p_0_1870 : zP1 0 1870 = some (.invokevirtual 205, 302, 3, 11) := zp_r zq_0 rfl
theorem p_0_1873 : zP1 0 1873 = some (.if_icmp .eq 272, 0, 0, 0) := zp_l zq_0 rfl
theorem p_0_1876 : zP1 0 1876 = some (.iconst 0, 0, 0, 0) := zp_l zq_0 rfl
theorem p_0_1877 : zP1 0 1877 = some (.ireturn, 0, 0, 0) := zp_l zq_0 rfl
theorem p_0_1878 : zP1 0 1878 = some (.aload_n 1, 0, 0, 0) := zp_l zq_0 rfl
theorem p_0_1879 : zP1 0 1879 = some (.aload_n 0, 0, 0, 0) := zp_l zq_0 rfl
theorem p_0_1880 : zP1 0 1880 = some (.iload_n 3, 0, 0, 0) := zp_l zq_0 rfl
theorem p_0_1881 : zP1 0 1881 = some (.iconst 1, 0, 0, 0) := zp_l zq_0 rfl
theorem p_0_1882 : zP1 0 1882 = some (.iadd, 0, 0, 0) := zp_l zq_0 rfl
theorem p_0_1883 : zP1 0 1883 = some (.iaload, 0, 0, 0) := zp_l zq_0 rfl
theorem p_0_1884 : zP1 0 1884 = some (.aload_n 0, 0, 0, 0) := zp_l zq_0 rfl
theorem p_0_1885 : zP1 0 1885 = some (.iload_n 3, 0, 0, 0) := zp_l zq_0 rfl
theorem p_0_1886 : zP1 0 1886 = some (.iconst 2, 0, 0, 0) := zp_l zq_0 rfl
theorem p_0_1887 : zP1 0 1887 = some (.iadd, 0, 0, 0) := zp_l zq_0 rfl
theorem p_0_1888 : zP1 0 1888 = some (.iaload, 0, 0, 0) := zp_l zq_0 rfl
theorem p_0_1889 : zP1 0 1889 = some (.aload_n 0, 0, 0, 0) := zp_l zq_0 rfl
theorem p_0_1890 : zP1 0 1890 = some (.iload_n 3, 0, 0, 0) := zp_l zq_0 rfl
theorem p_0_1891 : zP1 0 1891 = some (.iconst 3, 0, 0, 0) := zp_l zq_0 rfl
theorem p_0_1892 : zP1 0 1892 = some (.iadd, 0, 0, 0) := zp_l zq_0 rfl
theorem p_0_1893 : zP1 0 1893 = some (.iaload, 0, 0, 0) := zp_l zq_0 rfl
theorem p_0_1894 : zP1 0 1894 = some (.invokevirtual 206, 185, 3, 10) := zp_r zq_0 rfl
theorem p_0_1897 : zP1 0 1897 = some (.aload_n 2, 0, 0, 0) := zp_l zq_0 rfl
theorem p_0_1898 : zP1 0 1898 = some (.aload_n 0, 0, 0, 0) := zp_l zq_0 rfl
theorem p_0_1899 : zP1 0 1899 = some (.iload_n 3, 0, 0, 0) := zp_l zq_0 rfl
theorem p_0_1900 : zP1 0 1900 = some (.iconst 1, 0, 0, 0) := zp_l zq_0 rfl
theorem p_0_1901 : zP1 0 1901 = some (.iadd, 0, 0, 0) := zp_l zq_0 rfl
theorem p_0_1902 : zP1 0 1902 = some (.iaload, 0, 0, 0) := zp_l zq_0 rfl
theorem p_0_1903 : zP1 0 1903 = some (.aload_n 0, 0, 0, 0) := zp_l zq_0 rfl
theorem p_0_1904 : zP1 0 1904 = some (.iload_n 3, 0, 0, 0) := zp_l zq_0 rfl
theorem p_0_1905 : zP1 0 1905 = some (.iconst 2, 0, 0, 0) := zp_l zq_0 rfl
theorem p_0_1906 : zP1 0 1906 = some (.iadd, 0, 0, 0) := zp_l zq_0 rfl
theorem p_0_1907 : zP1 0 1907 = some (.iaload, 0, 0, 0) := zp_l zq_0 rfl
theorem p_0_1908 : zP1 0 1908 = some (.aload_n 0, 0, 0, 0) := zp_l zq_0 rfl
theorem p_0_1909 : zP1 0 1909 = some (.iload_n 3, 0, 0, 0) := zp_l zq_0 rfl
theorem p_0_1910 : zP1 0 1910 = some (.iconst 3, 0, 0, 0) := zp_l zq_0 rfl
theorem p_0_1911 : zP1 0 1911 = some (.iadd, 0, 0, 0) := zp_l zq_0 rfl
theorem p_0_1912 : zP1 0 1912 = some (.iaload, 0, 0, 0) := zp_l zq_0 rfl
theorem p_0_1913 : zP1 0 1913 = some (.invokevirtual 209, 304, 3, 11) := zp_r zq_0 rfl
theorem p_0_1916 : zP1 0 1916 = some (.if_icmp .eq 229, 0, 0, 0) := zp_l zq_0 rfl
theorem p_0_1919 : zP1 0 1919 = some (.iconst 0, 0, 0, 0) := zp_l zq_0 rfl
theorem p_0_1920 : zP1 0 1920 = some (.ireturn, 0, 0, 0) := zp_l zq_0 rfl
theorem p_0_1921 : zP1 0 1921 = some (.aload_n 1, 0, 0, 0) := zp_l zq_0 rfl
theorem p_0_1922 : zP1 0 1922 = some (.aload_n 0, 0, 0, 0) := zp_l zq_0 rfl
theorem p_0_1923 : zP1 0 1923 = some (.iload_n 3, 0, 0, 0) := zp_l zq_0 rfl
theorem p_0_1924 : zP1 0 1924 = some (.iconst 1, 0, 0, 0) := zp_l zq_0 rfl
theorem p_0_1925 : zP1 0 1925 = some (.iadd, 0, 0, 0) := zp_l zq_0 rfl
theorem p_0_1926 : zP1 0 1926 = some (.iaload, 0, 0, 0) := zp_l zq_0 rfl
theorem p_0_1927 : zP1 0 1927 = some (.aload_n 0, 0, 0, 0) := zp_l zq_0 rfl
theorem p_0_1928 : zP1 0 1928 = some (.iload_n 3, 0, 0, 0) := zp_l zq_0 rfl
theorem p_0_1929 : zP1 0 1929 = some (.iconst 2, 0, 0, 0) := zp_l zq_0 rfl
theorem p_0_1930 : zP1 0 1930 = some (.iadd, 0, 0, 0) := zp_l zq_0 rfl
theorem p_0_1931 : zP1 0 1931 = some (.iaload, 0, 0, 0) := zp_l zq_0 rfl
theorem p_0_1932 : zP1 0 1932 = some (.invokevirtual 210, 186, 2, 10) := zp_r zq_0 rfl
theorem p_0_1935 : zP1 0 1935 = some (.aload_n 2, 0, 0, 0) := zp_l zq_0 rfl
theorem p_0_1936 : zP1 0 1936 = some (.aload_n 0, 0, 0, 0) := zp_l zq_0 rfl
theorem p_0_1937 : zP1 0 1937 = some (.iload_n 3, 0, 0, 0) := zp_l zq_0 rfl
theorem p_0_1938 : zP1 0 1938 = some (.iconst 1, 0, 0, 0) := zp_l zq_0 rfl
theorem p_0_1939 : zP1 0 1939 = some (.iadd, 0, 0, 0) := zp_l zq_0 rfl
theorem p_0_1940 : zP1 0 1940 = some (.iaload, 0, 0, 0) := zp_l zq_0 rfl
theorem p_0_1941 : zP1 0 1941 = some (.aload_n 0, 0, 0, 0) := zp_l zq_0 rfl
theorem p_0_1942 : zP1 0 1942 = some (.iload_n 3, 0, 0, 0) := zp_l zq_0 rfl
theorem p_0_1943 : zP1 0 1943 = some (.iconst 2, 0, 0, 0) := zp_l zq_0 rfl
theorem p_0_1944 : zP1 0 1944 = some (.iadd, 0, 0, 0) := zp_l zq_0 rfl
theorem p_0_1945 : zP1 0 1945 = some (.iaload, 0, 0, 0) := zp_l zq_0 rfl
theorem p_0_1946 : zP1 0 1946 = some (.invokevirtual 213, 305, 2, 11) := zp_r zq_0 rfl
theorem p_0_1949 : zP1 0 1949 = some (.if_icmp .eq 196, 0, 0, 0) := zp_l zq_0 rfl
theorem p_0_1952 : zP1 0 1952 = some (.iconst 0, 0, 0, 0) := zp_l zq_0 rfl
theorem p_0_1953 : zP1 0 1953 = some (.ireturn, 0, 0, 0) := zp_l zq_0 rfl
theorem p_0_1954 : zP1 0 1954 = some (.aload_n 1, 0, 0, 0) := zp_l zq_0 rfl
theorem p_0_1955 : zP1 0 1955 = some (.aload_n 0, 0, 0, 0) := zp_l zq_0 rfl
theorem p_0_1956 : zP1 0 1956 = some (.iload_n 3, 0, 0, 0) := zp_l zq_0 rfl
theorem p_0_1957 : zP1 0 1957 = some (.iconst 1, 0, 0, 0) := zp_l zq_0 rfl
theorem p_0_1958 : zP1 0 1958 = some (.iadd, 0, 0, 0) := zp_l zq_0 rfl
theorem p_0_1959 : zP1 0 1959 = some (.iaload, 0, 0, 0) := zp_l zq_0 rfl
theorem p_0_1960 : zP1 0 1960 = some (.aload_n 0, 0, 0, 0) := zp_l zq_0 rfl
theorem p_0_1961 : zP1 0 1961 = some (.iload_n 3, 0, 0, 0) := zp_l zq_0 rfl
theorem p_0_1962 : zP1 0 1962 = some (.iconst 2, 0, 0, 0) := zp_l zq_0 rfl
theorem p_0_1963 : zP1 0 1963 = some (.iadd, 0, 0, 0) := zp_l zq_0 rfl
theorem p_0_1964 : zP1 0 1964 = some (.iaload, 0, 0, 0) := zp_l zq_0 rfl
theorem p_0_1965 : zP1 0 1965 = some (.aload_n 0, 0, 0, 0) := zp_l zq_0 rfl
theorem p_0_1966 : zP1 0 1966 = some (.iload_n 3, 0, 0, 0) := zp_l zq_0 rfl
theorem p_0_1967 : zP1 0 1967 = some (.iconst 3, 0, 0, 0) := zp_l zq_0 rfl
theorem p_0_1968 : zP1 0 1968 = some (.iadd, 0, 0, 0) := zp_l zq_0 rfl
theorem p_0_1969 : zP1 0 1969 = some (.iaload, 0, 0, 0) := zp_l zq_0 rfl
theorem p_0_1970 : zP1 0 1970 = some (.invokevirtual 214, 187, 3, 10) := zp_r zq_0 rfl
theorem p_0_1973 : zP1 0 1973 = some (.aload_n 2, 0, 0, 0) := zp_l zq_0 rfl
theorem p_0_1974 : zP1 0 1974 = some (.aload_n 0, 0, 0, 0) := zp_l zq_0 rfl
theorem p_0_1975 : zP1 0 1975 = some (.iload_n 3, 0, 0, 0) := zp_l zq_0 rfl
theorem p_0_1976 : zP1 0 1976 = some (.iconst 1, 0, 0, 0) := zp_l zq_0 rfl
theorem p_0_1977 : zP1 0 1977 = some (.iadd, 0, 0, 0) := zp_l zq_0 rfl
theorem p_0_1978 : zP1 0 1978 = some (.iaload, 0, 0, 0) := zp_l zq_0 rfl
theorem p_0_1979 : zP1 0 1979 = some (.aload_n 0, 0, 0, 0) := zp_l zq_0 rfl
theorem p_0_1980 : zP1 0 1980 = some (.iload_n 3, 0, 0, 0) := zp_l zq_0 rfl
theorem p_0_1981 : zP1 0 1981 = some (.iconst 2, 0, 0, 0) := zp_l zq_0 rfl
theorem p_0_1982 : zP1 0 1982 = some (.iadd, 0, 0, 0) := zp_l zq_0 rfl
theorem p_0_1983 : zP1 0 1983 = some (.iaload, 0, 0, 0) := zp_l zq_0 rfl
theorem p_0_1984 : zP1 0 1984 = some (.aload_n 0, 0, 0, 0) := zp_l zq_0 rfl
theorem p_0_1985 : zP1 0 1985 = some (.iload_n 3, 0, 0, 0) := zp_l zq_0 rfl
theorem p_0_1986 : zP1 0 1986 = some (.iconst 3, 0, 0, 0) := zp_l zq_0 rfl
theorem p_0_1987 : zP1 0 1987 = some (.iadd, 0, 0, 0) := zp_l zq_0 rfl
theorem p_0_1988 : zP1 0 1988 = some (.iaload, 0, 0, 0) := zp_l zq_0 rfl
theorem p_0_1989 : zP1 0 1989 = some (.invokevirtual 217, 306, 3, 11) := zp_r zq_0 rfl
theorem p_0_1992 : zP1 0 1992 = some (.if_icmp .eq 153, 0, 0, 0) := zp_l zq_0 rfl
theorem p_0_1995 : zP1 0 1995 = some (.iconst 0, 0, 0, 0) := zp_l zq_0 rfl
theorem p_0_1996 : zP1 0 1996 = some (.ireturn, 0, 0, 0) := zp_l zq_0 rfl
theorem p_0_1997 : zP1 0 1997 = some (.aload_n 1, 0, 0, 0) := zp_l zq_0 rfl
theorem p_0_1998 : zP1 0 1998 = some (.aload_n 0, 0, 0, 0) := zp_l zq_0 rfl
theorem p_0_1999 : zP1 0 1999 = some (.iload_n 3, 0, 0, 0) := zp_l zq_0 rfl
theorem p_0_2000 : zP1 0 2000 = some (.iconst 1, 0, 0, 0) := zp_l zq_0 rfl
theorem p_0_2001 : zP1 0 2001 = some (.iadd, 0, 0, 0) := zp_l zq_0 rfl
theorem p_0_2002 : zP1 0 2002 = some (.iaload, 0, 0, 0) := zp_l zq_0 rfl
theorem p_0_2003 : zP1 0 2003 = some (.aload_n 0, 0, 0, 0) := zp_l zq_0 rfl
theorem p_0_2004 : zP1 0 2004 = some (.iload_n 3, 0, 0, 0) := zp_l zq_0 rfl
theorem p_0_2005 : zP1 0 2005 = some (.iconst 2, 0, 0, 0) := zp_l zq_0 rfl
theorem p_0_2006 : zP1 0 2006 = some (.iadd, 0, 0, 0) := zp_l zq_0 rfl
theorem p_0_2007 : zP1 0 2007 = some (.iaload, 0, 0, 0) := zp_l zq_0 rfl
theorem p_0_2008 : zP1 0 2008 = some (.invokevirtual 218, 188, 2, 10) := zp_r zq_0 rfl
theorem p_0_2011 : zP1 0 2011 = some (.aload_n 2, 0, 0, 0) := zp_l zq_0 rfl
theorem p_0_2012 : zP1 0 2012 = some (.aload_n 0, 0, 0, 0) := zp_l zq_0 rfl
theorem p_0_2013 : zP1 0 2013 = some (.iload_n 3, 0, 0, 0) := zp_l zq_0 rfl
theorem p_0_2014 : zP1 0 2014 = some (.iconst 1, 0, 0, 0) := zp_l zq_0 rfl
theorem p_0_2015 : zP1 0 2015 = some (.iadd, 0, 0, 0) := zp_l zq_0 rfl
theorem p_0_2016 : zP1 0 2016 = some (.iaload, 0, 0, 0) := zp_l zq_0 rfl
theorem p_0_2017 : zP1 0 2017 = some (.aload_n 0, 0, 0, 0) := zp_l zq_0 rfl
theorem p_0_2018 : zP1 0 2018 = some (.iload_n 3, 0, 0, 0) := zp_l zq_0 rfl
theorem p_0_2019 : zP1 0 2019 = some (.iconst 2, 0, 0, 0) := zp_l zq_0 rfl
theorem p_0_2020 : zP1 0 2020 = some (.iadd, 0, 0, 0) := zp_l zq_0 rfl
theorem p_0_2021 : zP1 0 2021 = some (.iaload, 0, 0, 0) := zp_l zq_0 rfl
theorem p_0_2022 : zP1 0 2022 = some (.invokevirtual 221, 309, 2, 11) := zp_r zq_0 rfl
theorem p_0_2025 : zP1 0 2025 = some (.if_icmp .eq 120, 0, 0, 0) := zp_l zq_0 rfl
theorem p_0_2028 : zP1 0 2028 = some (.iconst 0, 0, 0, 0) := zp_l zq_0 rfl
theorem p_0_2029 : zP1 0 2029 = some (.ireturn, 0, 0, 0) := zp_l zq_0 rfl
theorem p_0_2030 : zP1 0 2030 = some (.aload_n 1, 0, 0, 0) := zp_l zq_0 rfl
theorem p_0_2031 : zP1 0 2031 = some (.aload_n 0, 0, 0, 0) := zp_l zq_0 rfl
theorem p_0_2032 : zP1 0 2032 = some (.iload_n 3, 0, 0, 0) := zp_l zq_0 rfl
theorem p_0_2033 : zP1 0 2033 = some (.iconst 1, 0, 0, 0) := zp_l zq_0 rfl
theorem p_0_2034 : zP1 0 2034 = some (.iadd, 0, 0, 0) := zp_l zq_0 rfl
theorem p_0_2035 : zP1 0 2035 = some (.iaload, 0, 0, 0) := zp_l zq_0 rfl
theorem p_0_2036 : zP1 0 2036 = some (.aload_n 0, 0, 0, 0) := zp_l zq_0 rfl
theorem p_0_2037 : zP1 0 2037 = some (.iload_n 3, 0, 0, 0) := zp_l zq_0 rfl
theorem p_0_2038 : zP1 0 2038 = some (.iconst 2, 0, 0, 0) := zp_l zq_0 rfl
theorem p_0_2039 : zP1 0 2039 = some (.iadd, 0, 0, 0) := zp_l zq_0 rfl
theorem p_0_2040 : zP1 0 2040 = some (.iaload, 0, 0, 0) := zp_l zq_0 rfl
theorem p_0_2041 : zP1 0 2041 = some (.aload_n 0, 0, 0, 0) := zp_l zq_0 rfl
theorem p_0_2042 : zP1 0 2042 = some (.iload_n 3, 0, 0, 0) := zp_l zq_0 rfl
theorem p_0_2043 : zP1 0 2043 = some (.iconst 3, 0, 0, 0) := zp_l zq_0 rfl
theorem p_0_2044 : zP1 0 2044 = some (.iadd, 0, 0, 0) := zp_l zq_0 rfl
theorem p_0_2045 : zP1 0 2045 = some (.iaload, 0, 0, 0) := zp_l zq_0 rfl
theorem p_0_2046 : zP1 0 2046 = some (.invokevirtual 222, 189, 3, 10) := zp_r zq_0 rfl
theorem p_0_2049 : zP1 0 2049 = some (.aload_n 2, 0, 0, 0) := zp_l zq_0 rfl
theorem p_0_2050 : zP1 0 2050 = some (.aload_n 0, 0, 0, 0) := zp_l zq_0 rfl
theorem p_0_2051 : zP1 0 2051 = some (.iload_n 3, 0, 0, 0) := zp_l zq_0 rfl
theorem p_0_2052 : zP1 0 2052 = some (.iconst 1, 0, 0, 0) := zp_l zq_0 rfl
theorem p_0_2053 : zP1 0 2053 = some (.iadd, 0, 0, 0) := zp_l zq_0 rfl
theorem p_0_2054 : zP1 0 2054 = some (.iaload, 0, 0, 0) := zp_l zq_0 rfl
theorem p_0_2055 : zP1 0 2055 = some (.aload_n 0, 0, 0, 0) := zp_l zq_0 rfl
theorem p_0_2056 : zP1 0 2056 = some (.iload_n 3, 0, 0, 0) := zp_l zq_0 rfl
theorem p_0_2057 : zP1 0 2057 = some (.iconst 2, 0, 0, 0) := zp_l zq_0 rfl
theorem p_0_2058 : zP1 0 2058 = some (.iadd, 0, 0, 0) := zp_l zq_0 rfl
theorem p_0_2059 : zP1 0 2059 = some (.iaload, 0, 0, 0) := zp_l zq_0 rfl
theorem p_0_2060 : zP1 0 2060 = some (.aload_n 0, 0, 0, 0) := zp_l zq_0 rfl
theorem p_0_2061 : zP1 0 2061 = some (.iload_n 3, 0, 0, 0) := zp_l zq_0 rfl
theorem p_0_2062 : zP1 0 2062 = some (.iconst 3, 0, 0, 0) := zp_l zq_0 rfl
theorem p_0_2063 : zP1 0 2063 = some (.iadd, 0, 0, 0) := zp_l zq_0 rfl
theorem p_0_2064 : zP1 0 2064 = some (.iaload, 0, 0, 0) := zp_l zq_0 rfl
theorem p_0_2065 : zP1 0 2065 = some (.invokevirtual 225, 316, 3, 11) := zp_r zq_0 rfl
theorem p_0_2068 : zP1 0 2068 = some (.if_icmp .eq 77, 0, 0, 0) := zp_l zq_0 rfl
theorem p_0_2071 : zP1 0 2071 = some (.iconst 0, 0, 0, 0) := zp_l zq_0 rfl
theorem p_0_2072 : zP1 0 2072 = some (.ireturn, 0, 0, 0) := zp_l zq_0 rfl
theorem p_0_2073 : zP1 0 2073 = some (.aload_n 1, 0, 0, 0) := zp_l zq_0 rfl
theorem p_0_2074 : zP1 0 2074 = some (.aload_n 0, 0, 0, 0) := zp_l zq_0 rfl
theorem p_0_2075 : zP1 0 2075 = some (.iload_n 3, 0, 0, 0) := zp_l zq_0 rfl
theorem p_0_2076 : zP1 0 2076 = some (.iconst 1, 0, 0, 0) := zp_l zq_0 rfl
theorem p_0_2077 : zP1 0 2077 = some (.iadd, 0, 0, 0) := zp_l zq_0 rfl
theorem p_0_2078 : zP1 0 2078 = some (.iaload, 0, 0, 0) := zp_l zq_0 rfl
theorem p_0_2079 : zP1 0 2079 = some (.invokevirtual 226, 190, 1, 10) := zp_r zq_0 rfl
theorem p_0_2082 : zP1 0 2082 = some (.aload_n 2, 0, 0, 0) := zp_l zq_0 rfl
theorem p_0_2083 : zP1 0 2083 = some (.aload_n 0, 0, 0, 0) := zp_l zq_0 rfl
theorem p_0_2084 : zP1 0 2084 = some (.iload_n 3, 0, 0, 0) := zp_l zq_0 rfl
theorem p_0_2085 : zP1 0 2085 = some (.iconst 1, 0, 0, 0) := zp_l zq_0 rfl
theorem p_0_2086 : zP1 0 2086 = some (.iadd, 0, 0, 0) := zp_l zq_0 rfl
theorem p_0_2087 : zP1 0 2087 = some (.iaload, 0, 0, 0) := zp_l zq_0 rfl
theorem p_0_2088 : zP1 0 2088 = some (.invokevirtual 229, 317, 1, 11) := zp_r zq_0 rfl
theorem p_0_2091 : zP1 0 2091 = some (.if_icmp .eq 54, 0, 0, 0) := zp_l zq_0 rfl
theorem p_0_2094 : zP1 0 2094 = some (.iconst 0, 0, 0, 0) := zp_l zq_0 rfl
theorem p_0_2095 : zP1 0 2095 = some (.ireturn, 0, 0, 0) := zp_l zq_0 rfl
theorem p_0_2096 : zP1 0 2096 = some (.aload_n 1, 0, 0, 0) := zp_l zq_0 rfl
theorem p_0_2097 : zP1 0 2097 = some (.aload_n 0, 0, 0, 0) := zp_l zq_0 rfl
theorem p_0_2098 : zP1 0 2098 = some (.iload_n 3, 0, 0, 0) := zp_l zq_0 rfl
theorem p_0_2099 : zP1 0 2099 = some (.iconst 1, 0, 0, 0) := zp_l zq_0 rfl
theorem p_0_2100 : zP1 0 2100 = some (.iadd, 0, 0, 0) := zp_l zq_0 rfl
theorem p_0_2101 : zP1 0 2101 = some (.iaload, 0, 0, 0) := zp_l zq_0 rfl
theorem p_0_2102 : zP1 0 2102 = some (.invokevirtual 230, 191, 1, 10) := zp_r zq_0 rfl
theorem p_0_2105 : zP1 0 2105 = some (.aload_n 2, 0, 0, 0) := zp_l zq_0 rfl
theorem p_0_2106 : zP1 0 2106 = some (.aload_n 0, 0, 0, 0) := zp_l zq_0 rfl
theorem p_0_2107 : zP1 0 2107 = some (.iload_n 3, 0, 0, 0) := zp_l zq_0 rfl
theorem p_0_2108 : zP1 0 2108 = some (.iconst 1, 0, 0, 0) := zp_l zq_0 rfl
theorem p_0_2109 : zP1 0 2109 = some (.iadd, 0, 0, 0) := zp_l zq_0 rfl
theorem p_0_2110 : zP1 0 2110 = some (.iaload, 0, 0, 0) := zp_l zq_0 rfl
theorem p_0_2111 : zP1 0 2111 = some (.invokevirtual 233, 318, 1, 11) := zp_r zq_0 rfl
theorem p_0_2114 : zP1 0 2114 = some (.if_icmp .eq 31, 0, 0, 0) := zp_l zq_0 rfl
theorem p_0_2117 : zP1 0 2117 = some (.iconst 0, 0, 0, 0) := zp_l zq_0 rfl
theorem p_0_2118 : zP1 0 2118 = some (.ireturn, 0, 0, 0) := zp_l zq_0 rfl
theorem p_0_2119 : zP1 0 2119 = some (.aload_n 1, 0, 0, 0) := zp_l zq_0 rfl
theorem p_0_2120 : zP1 0 2120 = some (.invokevirtual 234, 192, 0, 10) := zp_r zq_0 rfl
theorem p_0_2123 : zP1 0 2123 = some (.aload_n 2, 0, 0, 0) := zp_l zq_0 rfl
theorem p_0_2124 : zP1 0 2124 = some (.invokevirtual 237, 319, 0, 11) := zp_r zq_0 rfl
theorem p_0_2127 : zP1 0 2127 = some (.if_icmp .eq 18, 0, 0, 0) := zp_l zq_0 rfl
theorem p_0_2130 : zP1 0 2130 = some (.iconst 0, 0, 0, 0) := zp_l zq_0 rfl
theorem p_0_2131 : zP1 0 2131 = some (.ireturn, 0, 0, 0) := zp_l zq_0 rfl
theorem p_0_2132 : zP1 0 2132 = some (.aload_n 1, 0, 0, 0) := zp_l zq_0 rfl
theorem p_0_2133 : zP1 0 2133 = some (.invokevirtual 238, 193, 0, 10) := zp_r zq_0 rfl
theorem p_0_2136 : zP1 0 2136 = some (.aload_n 2, 0, 0, 0) := zp_l zq_0 rfl
theorem p_0_2137 : zP1 0 2137 = some (.invokevirtual 241, 320, 0, 11) := zp_r zq_0 rfl
theorem p_0_2140 : zP1 0 2140 = some (.if_icmp .eq 5, 0, 0, 0) := zp_l zq_0 rfl
theorem p_0_2143 : zP1 0 2143 = some (.iconst 0, 0, 0, 0) := zp_l zq_0 rfl
theorem p_0_2144 : zP1 0 2144 = some (.ireturn, 0, 0, 0) := zp_l zq_0 rfl
theorem p_0_2145 : zP1 0 2145 = some (.iinc 3 7, 0, 0, 0) := zp_l zq_0 rfl
theorem p_0_2148 : zP1 0 2148 = some (.goto (-2130), 0, 0, 0) := zp_l zq_0 rfl
theorem p_0_2151 : zP1 0 2151 = some (.iconst 1, 0, 0, 0) := zp_l zq_0 rfl
theorem p_0_2152 : zP1 0 2152 = some (.ireturn, 0, 0, 0) := zp_l zq_0 rfl
end LW
