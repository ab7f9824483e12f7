theorem d_Md_nextToken_134 : decode b_Md_nextToken 134 = .ok (.iload_n 2, 1) := by decide +kernel
theorem d_Md_nextToken_135 : decode b_Md_nextToken 135 = .ok (.bipush 7, 2) := by decide +kernel
theorem d_Md_nextToken_137 : decode b_Md_nextToken 137 = .ok (.if_icmp .ge 10, 3) := by decide +kernel
theorem d_Md_nextToken_140 : decode b_Md_nextToken 140 = .ok (.lload_n 3, 1) := by decide +kernel
theorem d_Md_nextToken_141 : decode b_Md_nextToken 141 = .ok (.invokestatic 138, 3) := by decide +kernel
theorem d_Md_nextToken_144 : decode b_Md_nextToken 144 = .ok (.goto 4, 3) := by decide +kernel
theorem d_Md_nextToken_147 : decode b_Md_nextToken 147 = .ok (.iconst (-1), 1) := by decide +kernel
theorem d_Md_nextToken_148 : decode b_Md_nextToken 148 = .ok (.istore 5, 2) := by decide +kernel
theorem d_Md_nextToken_150 : decode b_Md_nextToken 150 = .ok (.aload_n 0, 1) := by decide +kernel
theorem d_Md_nextToken_151 : decode b_Md_nextToken 151 = .ok (.iload 5, 2) := by decide +kernel
theorem d_Md_nextToken_153 : decode b_Md_nextToken 153 = .ok (.ifCond .ge 7, 3) := by decide +kernel
theorem d_Md_nextToken_156 : decode b_Md_nextToken 156 = .ok (.iconst 1, 1) := by decide +kernel
theorem d_Md_nextToken_157 : decode b_Md_nextToken 157 = .ok (.goto 8, 3) := by decide +kernel
theorem d_Md_nextToken_160 : decode b_Md_nextToken 160 = .ok (.bipush 10, 2) := by decide +kernel
theorem d_Md_nextToken_162 : decode b_Md_nextToken 162 = .ok (.iload 5, 2) := by decide +kernel
theorem d_Md_nextToken_164 : decode b_Md_nextToken 164 = .ok (.iadd, 1) := by decide +kernel
theorem d_Md_nextToken_165 : decode b_Md_nextToken 165 = .ok (.putfield 131, 3) := by decide +kernel
theorem d_Md_nextToken_168 : decode b_Md_nextToken 168 = .ok (.goto 144, 3) := by decide +kernel
theorem d_Md_nextToken_171 : decode b_Md_nextToken 171 = .ok (.iload_n 1, 1) := by decide +kernel
theorem d_Md_nextToken_172 : decode b_Md_nextToken 172 = .ok (.invokestatic 142, 3) := by decide +kernel
theorem d_Md_nextToken_175 : decode b_Md_nextToken 175 = .ok (.ifCond .eq 106, 3) := by decide +kernel
theorem d_Md_nextToken_178 : decode b_Md_nextToken 178 = .ok (.iconst 0, 1) := by decide +kernel
theorem d_Md_nextToken_179 : decode b_Md_nextToken 179 = .ok (.istore_n 2, 1) := by decide +kernel
theorem d_Md_nextToken_180 : decode b_Md_nextToken 180 = .ok (.aload_n 0, 1) := by decide +kernel
theorem d_Md_nextToken_181 : decode b_Md_nextToken 181 = .ok (.iconst 0, 1) := by decide +kernel
theorem d_Md_nextToken_182 : decode b_Md_nextToken 182 = .ok (.putfield 145, 3) := by decide +kernel
theorem d_Md_nextToken_185 : decode b_Md_nextToken 185 = .ok (.aload_n 0, 1) := by decide +kernel
theorem d_Md_nextToken_186 : decode b_Md_nextToken 186 = .ok (.aload_n 0, 1) := by decide +kernel
theorem d_Md_nextToken_187 : decode b_Md_nextToken 187 = .ok (.getfield 121, 3) := by decide +kernel
theorem d_Md_nextToken_190 : decode b_Md_nextToken 190 = .ok (.invokevirtual 124, 3) := by decide +kernel
theorem d_Md_nextToken_193 : decode b_Md_nextToken 193 = .ok (.invokestatic 142, 3) := by decide +kernel
theorem d_Md_nextToken_196 : decode b_Md_nextToken 196 = .ok (.ifCond .eq 53, 3) := by decide +kernel
theorem d_Md_nextToken_199 : decode b_Md_nextToken 199 = .ok (.aload_n 0, 1) := by decide +kernel
theorem d_Md_nextToken_200 : decode b_Md_nextToken 200 = .ok (.iload_n 2, 1) := by decide +kernel
theorem d_Md_nextToken_201 : decode b_Md_nextToken 201 = .ok (.iconst 4, 1) := by decide +kernel
theorem d_Md_nextToken_202 : decode b_Md_nextToken 202 = .ok (.if_icmp .ge 25, 3) := by decide +kernel
theorem d_Md_nextToken_205 : decode b_Md_nextToken 205 = .ok (.bipush 10, 2) := by decide +kernel
theorem d_Md_nextToken_207 : decode b_Md_nextToken 207 = .ok (.aload_n 0, 1) := by decide +kernel
theorem d_Md_nextToken_208 : decode b_Md_nextToken 208 = .ok (.getfield 145, 3) := by decide +kernel
theorem d_Md_nextToken_211 : decode b_Md_nextToken 211 = .ok (.imul, 1) := by decide +kernel
theorem d_Md_nextToken_212 : decode b_Md_nextToken 212 = .ok (.aload_n 0, 1) := by decide +kernel
theorem d_Md_nextToken_213 : decode b_Md_nextToken 213 = .ok (.aload_n 0, 1) := by decide +kernel
theorem d_Md_nextToken_214 : decode b_Md_nextToken 214 = .ok (.getfield 121, 3) := by decide +kernel
theorem d_Md_nextToken_217 : decode b_Md_nextToken 217 = .ok (.invokevirtual 124, 3) := by decide +kernel
theorem d_Md_nextToken_220 : decode b_Md_nextToken 220 = .ok (.iadd, 1) := by decide +kernel
theorem d_Md_nextToken_221 : decode b_Md_nextToken 221 = .ok (.bipush 48, 2) := by decide +kernel
theorem d_Md_nextToken_223 : decode b_Md_nextToken 223 = .ok (.isub, 1) := by decide +kernel
theorem d_Md_nextToken_224 : decode b_Md_nextToken 224 = .ok (.goto 6, 3) := by decide +kernel
theorem d_Md_nextToken_227 : decode b_Md_nextToken 227 = .ok (.sipush 9999, 3) := by decide +kernel
theorem d_Md_nextToken_230 : decode b_Md_nextToken 230 = .ok (.putfield 145, 3) := by decide +kernel
theorem d_Md_nextToken_233 : decode b_Md_nextToken 233 = .ok (.iinc 2 1, 3) := by decide +kernel
theorem d_Md_nextToken_236 : decode b_Md_nextToken 236 = .ok (.aload_n 0, 1) := by decide +kernel
theorem d_Md_nextToken_237 : decode b_Md_nextToken 237 = .ok (.dup, 1) := by decide +kernel
theorem d_Md_nextToken_238 : decode b_Md_nextToken 238 = .ok (.getfield 121, 3) := by decide +kernel
theorem d_Md_nextToken_241 : decode b_Md_nextToken 241 = .ok (.iconst 1, 1) := by decide +kernel
theorem d_Md_nextToken_242 : decode b_Md_nextToken 242 = .ok (.iadd, 1) := by decide +kernel
theorem d_Md_nextToken_243 : decode b_Md_nextToken 243 = .ok (.putfield 121, 3) := by decide +kernel
theorem d_Md_nextToken_246 : decode b_Md_nextToken 246 = .ok (.goto (-61), 3) := by decide +kernel
theorem d_Md_nextToken_249 : decode b_Md_nextToken 249 = .ok (.aload_n 0, 1) := by decide +kernel
theorem d_Md_nextToken_250 : decode b_Md_nextToken 250 = .ok (.aload_n 0, 1) := by decide +kernel
theorem d_Md_nextToken_251 : decode b_Md_nextToken 251 = .ok (.getfield 145, 3) := by decide +kernel
theorem d_Md_nextToken_254 : decode b_Md_nextToken 254 = .ok (.bipush 15, 2) := by decide +kernel
theorem d_Md_nextToken_256 : decode b_Md_nextToken 256 = .ok (.if_icmp .gt 14, 3) := by decide +kernel
theorem d_Md_nextToken_259 : decode b_Md_nextToken 259 = .ok (.iload_n 2, 1) := by decide +kernel
theorem d_Md_nextToken_260 : decode b_Md_nextToken 260 = .ok (.iconst 1, 1) := by decide +kernel
theorem d_Md_nextToken_261 : decode b_Md_nextToken 261 = .ok (.if_icmp .le 13, 3) := by decide +kernel
theorem d_Md_nextToken_264 : decode b_Md_nextToken 264 = .ok (.iload_n 1, 1) := by decide +kernel
theorem d_Md_nextToken_265 : decode b_Md_nextToken 265 = .ok (.bipush 48, 2) := by decide +kernel
theorem d_Md_nextToken_267 : decode b_Md_nextToken 267 = .ok (.if_icmp .ne 7, 3) := by decide +kernel
theorem d_Md_nextToken_270 : decode b_Md_nextToken 270 = .ok (.iconst 1, 1) := by decide +kernel
