theorem d_Md_readExp_279 : decode b_Md_readExp 279 = .ok (.aload_n 0, 1) := by decide +kernel
theorem d_Md_readExp_280 : decode b_Md_readExp 280 = .ok (.dup, 1) := by decide +kernel
theorem d_Md_readExp_281 : decode b_Md_readExp 281 = .ok (.getfield 179, 3) := by decide +kernel
theorem d_Md_readExp_284 : decode b_Md_readExp 284 = .ok (.iconst 1, 1) := by decide +kernel
theorem d_Md_readExp_285 : decode b_Md_readExp 285 = .ok (.isub, 1) := by decide +kernel
theorem d_Md_readExp_286 : decode b_Md_readExp 286 = .ok (.putfield 179, 3) := by decide +kernel
theorem d_Md_readExp_289 : decode b_Md_readExp 289 = .ok (.aload_n 0, 1) := by decide +kernel
theorem d_Md_readExp_290 : decode b_Md_readExp 290 = .ok (.invokevirtual 167, 3) := by decide +kernel
theorem d_Md_readExp_293 : decode b_Md_readExp 293 = .ok (.aload_n 0, 1) := by decide +kernel
theorem d_Md_readExp_294 : decode b_Md_readExp 294 = .ok (.iload_n 1, 1) := by decide +kernel
theorem d_Md_readExp_295 : decode b_Md_readExp 295 = .ok (.invokevirtual 197, 3) := by decide +kernel
theorem d_Md_readExp_298 : decode b_Md_readExp 298 = .ok (.goto (-286), 3) := by decide +kernel
theorem d_Md_readExp_301 : decode b_Md_readExp 301 = .ok (.aload_n 0, 1) := by decide +kernel
theorem d_Md_readExp_302 : decode b_Md_readExp 302 = .ok (.getfield 131, 3) := by decide +kernel
theorem d_Md_readExp_305 : decode b_Md_readExp 305 = .ok (.iconst 3, 1) := by decide +kernel
theorem d_Md_readExp_306 : decode b_Md_readExp 306 = .ok (.if_icmp .ne 42, 3) := by decide +kernel
theorem d_Md_readExp_309 : decode b_Md_readExp 309 = .ok (.aload_n 0, 1) := by decide +kernel
theorem d_Md_readExp_310 : decode b_Md_readExp 310 = .ok (.getfield 148, 3) := by decide +kernel
theorem d_Md_readExp_313 : decode b_Md_readExp 313 = .ok (.invokestatic 203, 3) := by decide +kernel
theorem d_Md_readExp_316 : decode b_Md_readExp 316 = .ok (.ifCond .le 32, 3) := by decide +kernel
theorem d_Md_readExp_319 : decode b_Md_readExp 319 = .ok (.aload_n 0, 1) := by decide +kernel
theorem d_Md_readExp_320 : decode b_Md_readExp 320 = .ok (.iload_n 1, 1) := by decide +kernel
theorem d_Md_readExp_321 : decode b_Md_readExp 321 = .ok (.aload_n 0, 1) := by decide +kernel
theorem d_Md_readExp_322 : decode b_Md_readExp 322 = .ok (.getfield 148, 3) := by decide +kernel
theorem d_Md_readExp_325 : decode b_Md_readExp 325 = .ok (.invokestatic 203, 3) := by decide +kernel
theorem d_Md_readExp_328 : decode b_Md_readExp 328 = .ok (.invokevirtual 206, 3) := by decide +kernel
theorem d_Md_readExp_331 : decode b_Md_readExp 331 = .ok (.aload_n 0, 1) := by decide +kernel
theorem d_Md_readExp_332 : decode b_Md_readExp 332 = .ok (.aload_n 0, 1) := by decide +kernel
theorem d_Md_readExp_333 : decode b_Md_readExp 333 = .ok (.getfield 148, 3) := by decide +kernel
theorem d_Md_readExp_336 : decode b_Md_readExp 336 = .ok (.invokevirtual 193, 3) := by decide +kernel
theorem d_Md_readExp_339 : decode b_Md_readExp 339 = .ok (.aload_n 0, 1) := by decide +kernel
theorem d_Md_readExp_340 : decode b_Md_readExp 340 = .ok (.invokevirtual 167, 3) := by decide +kernel
theorem d_Md_readExp_343 : decode b_Md_readExp 343 = .ok (.iconst 1, 1) := by decide +kernel
theorem d_Md_readExp_344 : decode b_Md_readExp 344 = .ok (.istore_n 3, 1) := by decide +kernel
theorem d_Md_readExp_345 : decode b_Md_readExp 345 = .ok (.goto (-333), 3) := by decide +kernel
theorem d_Md_readExp_348 : decode b_Md_readExp 348 = .ok (.iconst 0, 1) := by decide +kernel
theorem d_Md_readExp_349 : decode b_Md_readExp 349 = .ok (.istore 4, 2) := by decide +kernel
theorem d_Md_readExp_351 : decode b_Md_readExp 351 = .ok (.goto (-339), 3) := by decide +kernel
theorem d_Md_readExp_354 : decode b_Md_readExp 354 = .ok (.iload_n 2, 1) := by decide +kernel
theorem d_Md_readExp_355 : decode b_Md_readExp 355 = .ok (.ifCond .le 7, 3) := by decide +kernel
theorem d_Md_readExp_358 : decode b_Md_readExp 358 = .ok (.aload_n 0, 1) := by decide +kernel
theorem d_Md_readExp_359 : decode b_Md_readExp 359 = .ok (.invokevirtual 164, 3) := by decide +kernel
theorem d_Md_readExp_362 : decode b_Md_readExp 362 = .ok (.aload_n 0, 1) := by decide +kernel
theorem d_Md_readExp_363 : decode b_Md_readExp 363 = .ok (.iload_n 1, 1) := by decide +kernel
theorem d_Md_readExp_364 : decode b_Md_readExp 364 = .ok (.invokevirtual 200, 3) := by decide +kernel
theorem d_Md_readExp_367 : decode b_Md_readExp 367 = .ok (.return_, 1) := by decide +kernel
