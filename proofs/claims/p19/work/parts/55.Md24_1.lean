theorem d_Md_induction_127 : decode b_Md_induction 127 = .ok (.aload_n 0, 1) := by decide +kernel
theorem d_Md_induction_128 : decode b_Md_induction 128 = .ok (.getfield 70, 3) := by decide +kernel
theorem d_Md_induction_131 : decode b_Md_induction 131 = .ok (.iload 5, 2) := by decide +kernel
theorem d_Md_induction_133 : decode b_Md_induction 133 = .ok (.baload, 1) := by decide +kernel
theorem d_Md_induction_134 : decode b_Md_induction 134 = .ok (.ifCond .eq 7, 3) := by decide +kernel
theorem d_Md_induction_137 : decode b_Md_induction 137 = .ok (.iconst 1, 1) := by decide +kernel
theorem d_Md_induction_138 : decode b_Md_induction 138 = .ok (.goto 4, 3) := by decide +kernel
theorem d_Md_induction_141 : decode b_Md_induction 141 = .ok (.iconst 0, 1) := by decide +kernel
theorem d_Md_induction_142 : decode b_Md_induction 142 = .ok (.istore 4, 2) := by decide +kernel
theorem d_Md_induction_144 : decode b_Md_induction 144 = .ok (.iinc 5 1, 3) := by decide +kernel
theorem d_Md_induction_147 : decode b_Md_induction 147 = .ok (.goto (-54), 3) := by decide +kernel
theorem d_Md_induction_150 : decode b_Md_induction 150 = .ok (.iconst 0, 1) := by decide +kernel
theorem d_Md_induction_151 : decode b_Md_induction 151 = .ok (.istore 5, 2) := by decide +kernel
theorem d_Md_induction_153 : decode b_Md_induction 153 = .ok (.iload 5, 2) := by decide +kernel
theorem d_Md_induction_155 : decode b_Md_induction 155 = .ok (.sipush 4096, 3) := by decide +kernel
theorem d_Md_induction_158 : decode b_Md_induction 158 = .ok (.if_icmp .ge 82, 3) := by decide +kernel
theorem d_Md_induction_161 : decode b_Md_induction 161 = .ok (.iload 4, 2) := by decide +kernel
theorem d_Md_induction_163 : decode b_Md_induction 163 = .ok (.ifCond .eq 77, 3) := by decide +kernel
theorem d_Md_induction_166 : decode b_Md_induction 166 = .ok (.iconst 0, 1) := by decide +kernel
theorem d_Md_induction_167 : decode b_Md_induction 167 = .ok (.istore 6, 2) := by decide +kernel
theorem d_Md_induction_169 : decode b_Md_induction 169 = .ok (.iload 6, 2) := by decide +kernel
theorem d_Md_induction_171 : decode b_Md_induction 171 = .ok (.bipush 6, 2) := by decide +kernel
theorem d_Md_induction_173 : decode b_Md_induction 173 = .ok (.if_icmp .ge 61, 3) := by decide +kernel
theorem d_Md_induction_176 : decode b_Md_induction 176 = .ok (.aload_n 0, 1) := by decide +kernel
theorem d_Md_induction_177 : decode b_Md_induction 177 = .ok (.getfield 85, 3) := by decide +kernel
theorem d_Md_induction_180 : decode b_Md_induction 180 = .ok (.iload 5, 2) := by decide +kernel
theorem d_Md_induction_182 : decode b_Md_induction 182 = .ok (.baload, 1) := by decide +kernel
theorem d_Md_induction_183 : decode b_Md_induction 183 = .ok (.ifCond .eq 51, 3) := by decide +kernel
theorem d_Md_induction_186 : decode b_Md_induction 186 = .ok (.aload_n 0, 1) := by decide +kernel
theorem d_Md_induction_187 : decode b_Md_induction 187 = .ok (.getfield 63, 3) := by decide +kernel
theorem d_Md_induction_190 : decode b_Md_induction 190 = .ok (.bipush 6, 2) := by decide +kernel
theorem d_Md_induction_192 : decode b_Md_induction 192 = .ok (.iload 5, 2) := by decide +kernel
theorem d_Md_induction_194 : decode b_Md_induction 194 = .ok (.imul, 1) := by decide +kernel
theorem d_Md_induction_195 : decode b_Md_induction 195 = .ok (.iload 6, 2) := by decide +kernel
theorem d_Md_induction_197 : decode b_Md_induction 197 = .ok (.iadd, 1) := by decide +kernel
theorem d_Md_induction_198 : decode b_Md_induction 198 = .ok (.iaload, 1) := by decide +kernel
theorem d_Md_induction_199 : decode b_Md_induction 199 = .ok (.istore 7, 2) := by decide +kernel
theorem d_Md_induction_201 : decode b_Md_induction 201 = .ok (.iload 4, 2) := by decide +kernel
theorem d_Md_induction_203 : decode b_Md_induction 203 = .ok (.ifCond .eq 22, 3) := by decide +kernel
theorem d_Md_induction_206 : decode b_Md_induction 206 = .ok (.iload 7, 2) := by decide +kernel
theorem d_Md_induction_208 : decode b_Md_induction 208 = .ok (.ifCond .lt 13, 3) := by decide +kernel
theorem d_Md_induction_211 : decode b_Md_induction 211 = .ok (.aload_n 0, 1) := by decide +kernel
theorem d_Md_induction_212 : decode b_Md_induction 212 = .ok (.getfield 70, 3) := by decide +kernel
theorem d_Md_induction_215 : decode b_Md_induction 215 = .ok (.iload 7, 2) := by decide +kernel
theorem d_Md_induction_217 : decode b_Md_induction 217 = .ok (.baload, 1) := by decide +kernel
theorem d_Md_induction_218 : decode b_Md_induction 218 = .ok (.ifCond .eq 7, 3) := by decide +kernel
theorem d_Md_induction_221 : decode b_Md_induction 221 = .ok (.iconst 1, 1) := by decide +kernel
theorem d_Md_induction_222 : decode b_Md_induction 222 = .ok (.goto 4, 3) := by decide +kernel
theorem d_Md_induction_225 : decode b_Md_induction 225 = .ok (.iconst 0, 1) := by decide +kernel
theorem d_Md_induction_226 : decode b_Md_induction 226 = .ok (.istore 4, 2) := by decide +kernel
theorem d_Md_induction_228 : decode b_Md_induction 228 = .ok (.iinc 6 1, 3) := by decide +kernel
theorem d_Md_induction_231 : decode b_Md_induction 231 = .ok (.goto (-62), 3) := by decide +kernel
theorem d_Md_induction_234 : decode b_Md_induction 234 = .ok (.iinc 5 1, 3) := by decide +kernel
theorem d_Md_induction_237 : decode b_Md_induction 237 = .ok (.goto (-84), 3) := by decide +kernel
theorem d_Md_induction_240 : decode b_Md_induction 240 = .ok (.iload 4, 2) := by decide +kernel
theorem d_Md_induction_242 : decode b_Md_induction 242 = .ok (.ifCond .eq 5, 3) := by decide +kernel
theorem d_Md_induction_245 : decode b_Md_induction 245 = .ok (.iload_n 3, 1) := by decide +kernel
theorem d_Md_induction_246 : decode b_Md_induction 246 = .ok (.ireturn, 1) := by decide +kernel
theorem d_Md_induction_247 : decode b_Md_induction 247 = .ok (.aload_n 0, 1) := by decide +kernel
theorem d_Md_induction_248 : decode b_Md_induction 248 = .ok (.iload_n 2, 1) := by decide +kernel
theorem d_Md_induction_249 : decode b_Md_induction 249 = .ok (.invokevirtual 279, 3) := by decide +kernel
theorem d_Md_induction_252 : decode b_Md_induction 252 = .ok (.iinc 3 1, 3) := by decide +kernel
theorem d_Md_induction_255 : decode b_Md_induction 255 = .ok (.goto (-174), 3) := by decide +kernel
theorem d_Md_induction_258 : decode b_Md_induction 258 = .ok (.iconst 0, 1) := by decide +kernel
theorem d_Md_induction_259 : decode b_Md_induction 259 = .ok (.ireturn, 1) := by decide +kernel
