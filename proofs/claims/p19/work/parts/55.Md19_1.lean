theorem d_Md_many_160 : decode b_Md_many 160 = .ok (.iconst 1, 1) := by decide +kernel
theorem d_Md_many_161 : decode b_Md_many 161 = .ok (.goto 4, 3) := by decide +kernel
theorem d_Md_many_164 : decode b_Md_many 164 = .ok (.iconst 0, 1) := by decide +kernel
theorem d_Md_many_165 : decode b_Md_many 165 = .ok (.iadd, 1) := by decide +kernel
theorem d_Md_many_166 : decode b_Md_many 166 = .ok (.istore_n 2, 1) := by decide +kernel
theorem d_Md_many_167 : decode b_Md_many 167 = .ok (.goto 76, 3) := by decide +kernel
theorem d_Md_many_170 : decode b_Md_many 170 = .ok (.iload_n 2, 1) := by decide +kernel
theorem d_Md_many_171 : decode b_Md_many 171 = .ok (.iload 5, 2) := by decide +kernel
theorem d_Md_many_173 : decode b_Md_many 173 = .ok (.ifCond .eq 16, 3) := by decide +kernel
theorem d_Md_many_176 : decode b_Md_many 176 = .ok (.aload_n 0, 1) := by decide +kernel
theorem d_Md_many_177 : decode b_Md_many 177 = .ok (.iload 4, 2) := by decide +kernel
theorem d_Md_many_179 : decode b_Md_many 179 = .ok (.invokevirtual 270, 3) := by decide +kernel
theorem d_Md_many_182 : decode b_Md_many 182 = .ok (.ifCond .eq 7, 3) := by decide +kernel
theorem d_Md_many_185 : decode b_Md_many 185 = .ok (.iconst 1, 1) := by decide +kernel
theorem d_Md_many_186 : decode b_Md_many 186 = .ok (.goto 4, 3) := by decide +kernel
theorem d_Md_many_189 : decode b_Md_many 189 = .ok (.iconst 0, 1) := by decide +kernel
theorem d_Md_many_190 : decode b_Md_many 190 = .ok (.iadd, 1) := by decide +kernel
theorem d_Md_many_191 : decode b_Md_many 191 = .ok (.istore_n 2, 1) := by decide +kernel
theorem d_Md_many_192 : decode b_Md_many 192 = .ok (.goto 51, 3) := by decide +kernel
theorem d_Md_many_195 : decode b_Md_many 195 = .ok (.iload_n 2, 1) := by decide +kernel
theorem d_Md_many_196 : decode b_Md_many 196 = .ok (.iload 5, 2) := by decide +kernel
theorem d_Md_many_198 : decode b_Md_many 198 = .ok (.ifCond .eq 12, 3) := by decide +kernel
theorem d_Md_many_201 : decode b_Md_many 201 = .ok (.aload_n 0, 1) := by decide +kernel
theorem d_Md_many_202 : decode b_Md_many 202 = .ok (.iload 4, 2) := by decide +kernel
theorem d_Md_many_204 : decode b_Md_many 204 = .ok (.invokevirtual 273, 3) := by decide +kernel
theorem d_Md_many_207 : decode b_Md_many 207 = .ok (.goto 4, 3) := by decide +kernel
theorem d_Md_many_210 : decode b_Md_many 210 = .ok (.iconst 0, 1) := by decide +kernel
theorem d_Md_many_211 : decode b_Md_many 211 = .ok (.iadd, 1) := by decide +kernel
theorem d_Md_many_212 : decode b_Md_many 212 = .ok (.istore_n 2, 1) := by decide +kernel
theorem d_Md_many_213 : decode b_Md_many 213 = .ok (.goto 30, 3) := by decide +kernel
theorem d_Md_many_216 : decode b_Md_many 216 = .ok (.iload_n 2, 1) := by decide +kernel
theorem d_Md_many_217 : decode b_Md_many 217 = .ok (.aload_n 0, 1) := by decide +kernel
theorem d_Md_many_218 : decode b_Md_many 218 = .ok (.getfield 79, 3) := by decide +kernel
theorem d_Md_many_221 : decode b_Md_many 221 = .ok (.iload 4, 2) := by decide +kernel
theorem d_Md_many_223 : decode b_Md_many 223 = .ok (.iaload, 1) := by decide +kernel
theorem d_Md_many_224 : decode b_Md_many 224 = .ok (.aload_n 0, 1) := by decide +kernel
theorem d_Md_many_225 : decode b_Md_many 225 = .ok (.getfield 264, 3) := by decide +kernel
theorem d_Md_many_228 : decode b_Md_many 228 = .ok (.iand, 1) := by decide +kernel
theorem d_Md_many_229 : decode b_Md_many 229 = .ok (.aload_n 0, 1) := by decide +kernel
theorem d_Md_many_230 : decode b_Md_many 230 = .ok (.getfield 264, 3) := by decide +kernel
theorem d_Md_many_233 : decode b_Md_many 233 = .ok (.if_icmp .ne 7, 3) := by decide +kernel
theorem d_Md_many_236 : decode b_Md_many 236 = .ok (.iconst 1, 1) := by decide +kernel
theorem d_Md_many_237 : decode b_Md_many 237 = .ok (.goto 4, 3) := by decide +kernel
theorem d_Md_many_240 : decode b_Md_many 240 = .ok (.iconst 0, 1) := by decide +kernel
theorem d_Md_many_241 : decode b_Md_many 241 = .ok (.iadd, 1) := by decide +kernel
theorem d_Md_many_242 : decode b_Md_many 242 = .ok (.istore_n 2, 1) := by decide +kernel
theorem d_Md_many_243 : decode b_Md_many 243 = .ok (.iinc 4 1, 3) := by decide +kernel
theorem d_Md_many_246 : decode b_Md_many 246 = .ok (.goto (-220), 3) := by decide +kernel
theorem d_Md_many_249 : decode b_Md_many 249 = .ok (.iload_n 1, 1) := by decide +kernel
theorem d_Md_many_250 : decode b_Md_many 250 = .ok (.iconst 4, 1) := by decide +kernel
theorem d_Md_many_251 : decode b_Md_many 251 = .ok (.if_icmp .ne 7, 3) := by decide +kernel
theorem d_Md_many_254 : decode b_Md_many 254 = .ok (.iload_n 3, 1) := by decide +kernel
theorem d_Md_many_255 : decode b_Md_many 255 = .ok (.goto 4, 3) := by decide +kernel
theorem d_Md_many_258 : decode b_Md_many 258 = .ok (.iload_n 2, 1) := by decide +kernel
theorem d_Md_many_259 : decode b_Md_many 259 = .ok (.ireturn, 1) := by decide +kernel
