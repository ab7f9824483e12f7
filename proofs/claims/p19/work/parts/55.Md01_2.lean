theorem d_Md_nextToken_271 : decode b_Md_nextToken 271 = .ok (.goto 4, 3) := by decide +kernel
theorem d_Md_nextToken_274 : decode b_Md_nextToken 274 = .ok (.iconst 2, 1) := by decide +kernel
theorem d_Md_nextToken_275 : decode b_Md_nextToken 275 = .ok (.putfield 131, 3) := by decide +kernel
theorem d_Md_nextToken_278 : decode b_Md_nextToken 278 = .ok (.goto 34, 3) := by decide +kernel
theorem d_Md_nextToken_281 : decode b_Md_nextToken 281 = .ok (.aload_n 0, 1) := by decide +kernel
theorem d_Md_nextToken_282 : decode b_Md_nextToken 282 = .ok (.iload_n 1, 1) := by decide +kernel
theorem d_Md_nextToken_283 : decode b_Md_nextToken 283 = .ok (.putfield 148, 3) := by decide +kernel
theorem d_Md_nextToken_286 : decode b_Md_nextToken 286 = .ok (.aload_n 0, 1) := by decide +kernel
theorem d_Md_nextToken_287 : decode b_Md_nextToken 287 = .ok (.iload_n 1, 1) := by decide +kernel
theorem d_Md_nextToken_288 : decode b_Md_nextToken 288 = .ok (.invokestatic 151, 3) := by decide +kernel
theorem d_Md_nextToken_291 : decode b_Md_nextToken 291 = .ok (.ifCond .eq 7, 3) := by decide +kernel
theorem d_Md_nextToken_294 : decode b_Md_nextToken 294 = .ok (.iconst 3, 1) := by decide +kernel
theorem d_Md_nextToken_295 : decode b_Md_nextToken 295 = .ok (.goto 4, 3) := by decide +kernel
theorem d_Md_nextToken_298 : decode b_Md_nextToken 298 = .ok (.iconst 1, 1) := by decide +kernel
theorem d_Md_nextToken_299 : decode b_Md_nextToken 299 = .ok (.putfield 131, 3) := by decide +kernel
theorem d_Md_nextToken_302 : decode b_Md_nextToken 302 = .ok (.aload_n 0, 1) := by decide +kernel
theorem d_Md_nextToken_303 : decode b_Md_nextToken 303 = .ok (.dup, 1) := by decide +kernel
theorem d_Md_nextToken_304 : decode b_Md_nextToken 304 = .ok (.getfield 121, 3) := by decide +kernel
theorem d_Md_nextToken_307 : decode b_Md_nextToken 307 = .ok (.iconst 1, 1) := by decide +kernel
theorem d_Md_nextToken_308 : decode b_Md_nextToken 308 = .ok (.iadd, 1) := by decide +kernel
theorem d_Md_nextToken_309 : decode b_Md_nextToken 309 = .ok (.putfield 121, 3) := by decide +kernel
theorem d_Md_nextToken_312 : decode b_Md_nextToken 312 = .ok (.return_, 1) := by decide +kernel
