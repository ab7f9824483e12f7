theorem d_Md_goThrough_232 : decode b_Md_goThrough 232 = .ok (.getfield 63, 3) := by decide +kernel
theorem d_Md_goThrough_235 : decode b_Md_goThrough 235 = .ok (.bipush 6, 2) := by decide +kernel
theorem d_Md_goThrough_237 : decode b_Md_goThrough 237 = .ok (.iload_n 3, 1) := by decide +kernel
theorem d_Md_goThrough_238 : decode b_Md_goThrough 238 = .ok (.imul, 1) := by decide +kernel
theorem d_Md_goThrough_239 : decode b_Md_goThrough 239 = .ok (.iload 4, 2) := by decide +kernel
theorem d_Md_goThrough_241 : decode b_Md_goThrough 241 = .ok (.iadd, 1) := by decide +kernel
theorem d_Md_goThrough_242 : decode b_Md_goThrough 242 = .ok (.iaload, 1) := by decide +kernel
theorem d_Md_goThrough_243 : decode b_Md_goThrough 243 = .ok (.istore 5, 2) := by decide +kernel
theorem d_Md_goThrough_245 : decode b_Md_goThrough 245 = .ok (.iload 5, 2) := by decide +kernel
theorem d_Md_goThrough_247 : decode b_Md_goThrough 247 = .ok (.ifCond .lt 39, 3) := by decide +kernel
theorem d_Md_goThrough_250 : decode b_Md_goThrough 250 = .ok (.aload_n 0, 1) := by decide +kernel
theorem d_Md_goThrough_251 : decode b_Md_goThrough 251 = .ok (.getfield 73, 3) := by decide +kernel
theorem d_Md_goThrough_254 : decode b_Md_goThrough 254 = .ok (.iload 5, 2) := by decide +kernel
theorem d_Md_goThrough_256 : decode b_Md_goThrough 256 = .ok (.iaload, 1) := by decide +kernel
theorem d_Md_goThrough_257 : decode b_Md_goThrough 257 = .ok (.ifCond .ge 29, 3) := by decide +kernel
theorem d_Md_goThrough_260 : decode b_Md_goThrough 260 = .ok (.aload_n 0, 1) := by decide +kernel
theorem d_Md_goThrough_261 : decode b_Md_goThrough 261 = .ok (.getfield 73, 3) := by decide +kernel
theorem d_Md_goThrough_264 : decode b_Md_goThrough 264 = .ok (.iload 5, 2) := by decide +kernel
theorem d_Md_goThrough_266 : decode b_Md_goThrough 266 = .ok (.aload_n 0, 1) := by decide +kernel
theorem d_Md_goThrough_267 : decode b_Md_goThrough 267 = .ok (.getfield 73, 3) := by decide +kernel
theorem d_Md_goThrough_270 : decode b_Md_goThrough 270 = .ok (.iload_n 3, 1) := by decide +kernel
theorem d_Md_goThrough_271 : decode b_Md_goThrough 271 = .ok (.iaload, 1) := by decide +kernel
theorem d_Md_goThrough_272 : decode b_Md_goThrough 272 = .ok (.iconst 1, 1) := by decide +kernel
theorem d_Md_goThrough_273 : decode b_Md_goThrough 273 = .ok (.iadd, 1) := by decide +kernel
theorem d_Md_goThrough_274 : decode b_Md_goThrough 274 = .ok (.iastore, 1) := by decide +kernel
theorem d_Md_goThrough_275 : decode b_Md_goThrough 275 = .ok (.aload_n 0, 1) := by decide +kernel
theorem d_Md_goThrough_276 : decode b_Md_goThrough 276 = .ok (.getfield 76, 3) := by decide +kernel
theorem d_Md_goThrough_279 : decode b_Md_goThrough 279 = .ok (.iload_n 1, 1) := by decide +kernel
theorem d_Md_goThrough_280 : decode b_Md_goThrough 280 = .ok (.iload 5, 2) := by decide +kernel
theorem d_Md_goThrough_282 : decode b_Md_goThrough 282 = .ok (.iastore, 1) := by decide +kernel
theorem d_Md_goThrough_283 : decode b_Md_goThrough 283 = .ok (.iinc 1 1, 3) := by decide +kernel
theorem d_Md_goThrough_286 : decode b_Md_goThrough 286 = .ok (.iinc 4 1, 3) := by decide +kernel
theorem d_Md_goThrough_289 : decode b_Md_goThrough 289 = .ok (.goto (-65), 3) := by decide +kernel
theorem d_Md_goThrough_292 : decode b_Md_goThrough 292 = .ok (.iinc 2 1, 3) := by decide +kernel
theorem d_Md_goThrough_295 : decode b_Md_goThrough 295 = .ok (.goto (-86), 3) := by decide +kernel
theorem d_Md_goThrough_298 : decode b_Md_goThrough 298 = .ok (.aload_n 0, 1) := by decide +kernel
theorem d_Md_goThrough_299 : decode b_Md_goThrough 299 = .ok (.invokevirtual 258, 3) := by decide +kernel
theorem d_Md_goThrough_302 : decode b_Md_goThrough 302 = .ok (.return_, 1) := by decide +kernel
