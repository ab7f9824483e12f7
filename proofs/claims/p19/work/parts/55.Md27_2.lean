theorem d_Md_longest_256 : decode b_Md_longest 256 = .ok (.iload_n 3, 1) := by decide +kernel
theorem d_Md_longest_257 : decode b_Md_longest 257 = .ok (.iaload, 1) := by decide +kernel
theorem d_Md_longest_258 : decode b_Md_longest 258 = .ok (.goto 4, 3) := by decide +kernel
theorem d_Md_longest_261 : decode b_Md_longest 261 = .ok (.iload_n 2, 1) := by decide +kernel
theorem d_Md_longest_262 : decode b_Md_longest 262 = .ok (.istore_n 2, 1) := by decide +kernel
theorem d_Md_longest_263 : decode b_Md_longest 263 = .ok (.iinc 3 1, 3) := by decide +kernel
theorem d_Md_longest_266 : decode b_Md_longest 266 = .ok (.goto (-62), 3) := by decide +kernel
theorem d_Md_longest_269 : decode b_Md_longest 269 = .ok (.iload_n 2, 1) := by decide +kernel
theorem d_Md_longest_270 : decode b_Md_longest 270 = .ok (.ireturn, 1) := by decide +kernel
