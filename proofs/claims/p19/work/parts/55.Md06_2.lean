theorem d_Md_readCond_286 : decode b_Md_readCond 286 = .ok (.iconst 1, 1) := by decide +kernel
theorem d_Md_readCond_287 : decode b_Md_readCond 287 = .ok (.istore_n 2, 1) := by decide +kernel
theorem d_Md_readCond_288 : decode b_Md_readCond 288 = .ok (.goto (-255), 3) := by decide +kernel
theorem d_Md_readCond_291 : decode b_Md_readCond 291 = .ok (.iconst 0, 1) := by decide +kernel
theorem d_Md_readCond_292 : decode b_Md_readCond 292 = .ok (.istore_n 3, 1) := by decide +kernel
theorem d_Md_readCond_293 : decode b_Md_readCond 293 = .ok (.goto (-260), 3) := by decide +kernel
theorem d_Md_readCond_296 : decode b_Md_readCond 296 = .ok (.aload_n 0, 1) := by decide +kernel
theorem d_Md_readCond_297 : decode b_Md_readCond 297 = .ok (.invokevirtual 215, 3) := by decide +kernel
theorem d_Md_readCond_300 : decode b_Md_readCond 300 = .ok (.ifCond .eq 7, 3) := by decide +kernel
theorem d_Md_readCond_303 : decode b_Md_readCond 303 = .ok (.aload_n 0, 1) := by decide +kernel
theorem d_Md_readCond_304 : decode b_Md_readCond 304 = .ok (.invokevirtual 164, 3) := by decide +kernel
theorem d_Md_readCond_307 : decode b_Md_readCond 307 = .ok (.aload_n 0, 1) := by decide +kernel
theorem d_Md_readCond_308 : decode b_Md_readCond 308 = .ok (.iconst 1, 1) := by decide +kernel
theorem d_Md_readCond_309 : decode b_Md_readCond 309 = .ok (.invokevirtual 218, 3) := by decide +kernel
theorem d_Md_readCond_312 : decode b_Md_readCond 312 = .ok (.aload_n 0, 1) := by decide +kernel
theorem d_Md_readCond_313 : decode b_Md_readCond 313 = .ok (.bipush 7, 2) := by decide +kernel
theorem d_Md_readCond_315 : decode b_Md_readCond 315 = .ok (.iconst 0, 1) := by decide +kernel
theorem d_Md_readCond_316 : decode b_Md_readCond 316 = .ok (.invokevirtual 182, 3) := by decide +kernel
theorem d_Md_readCond_319 : decode b_Md_readCond 319 = .ok (.iload_n 1, 1) := by decide +kernel
theorem d_Md_readCond_320 : decode b_Md_readCond 320 = .ok (.ireturn, 1) := by decide +kernel
