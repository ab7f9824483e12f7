theorem d_Md_readCond_142 : decode b_Md_readCond 142 = .ok (.if_icmp .eq 7, 3) := by decide +kernel
theorem d_Md_readCond_145 : decode b_Md_readCond 145 = .ok (.aload_n 0, 1) := by decide +kernel
theorem d_Md_readCond_146 : decode b_Md_readCond 146 = .ok (.invokevirtual 164, 3) := by decide +kernel
theorem d_Md_readCond_149 : decode b_Md_readCond 149 = .ok (.aload_n 0, 1) := by decide +kernel
theorem d_Md_readCond_150 : decode b_Md_readCond 150 = .ok (.getfield 154, 3) := by decide +kernel
theorem d_Md_readCond_153 : decode b_Md_readCond 153 = .ok (.ifCond .ne 24, 3) := by decide +kernel
theorem d_Md_readCond_156 : decode b_Md_readCond 156 = .ok (.aload_n 0, 1) := by decide +kernel
theorem d_Md_readCond_157 : decode b_Md_readCond 157 = .ok (.invokevirtual 167, 3) := by decide +kernel
theorem d_Md_readCond_160 : decode b_Md_readCond 160 = .ok (.aload_n 0, 1) := by decide +kernel
theorem d_Md_readCond_161 : decode b_Md_readCond 161 = .ok (.invokevirtual 209, 3) := by decide +kernel
theorem d_Md_readCond_164 : decode b_Md_readCond 164 = .ok (.aload_n 0, 1) := by decide +kernel
theorem d_Md_readCond_165 : decode b_Md_readCond 165 = .ok (.iload 4, 2) := by decide +kernel
theorem d_Md_readCond_167 : decode b_Md_readCond 167 = .ok (.iconst 0, 1) := by decide +kernel
theorem d_Md_readCond_168 : decode b_Md_readCond 168 = .ok (.invokevirtual 182, 3) := by decide +kernel
theorem d_Md_readCond_171 : decode b_Md_readCond 171 = .ok (.aload_n 0, 1) := by decide +kernel
theorem d_Md_readCond_172 : decode b_Md_readCond 172 = .ok (.invokevirtual 212, 3) := by decide +kernel
theorem d_Md_readCond_175 : decode b_Md_readCond 175 = .ok (.iconst 0, 1) := by decide +kernel
theorem d_Md_readCond_176 : decode b_Md_readCond 176 = .ok (.istore_n 2, 1) := by decide +kernel
theorem d_Md_readCond_177 : decode b_Md_readCond 177 = .ok (.goto (-144), 3) := by decide +kernel
theorem d_Md_readCond_180 : decode b_Md_readCond 180 = .ok (.aload_n 0, 1) := by decide +kernel
theorem d_Md_readCond_181 : decode b_Md_readCond 181 = .ok (.bipush 93, 2) := by decide +kernel
theorem d_Md_readCond_183 : decode b_Md_readCond 183 = .ok (.invokevirtual 161, 3) := by decide +kernel
theorem d_Md_readCond_186 : decode b_Md_readCond 186 = .ok (.ifCond .eq 46, 3) := by decide +kernel
theorem d_Md_readCond_189 : decode b_Md_readCond 189 = .ok (.aload_n 0, 1) := by decide +kernel
theorem d_Md_readCond_190 : decode b_Md_readCond 190 = .ok (.invokevirtual 215, 3) := by decide +kernel
theorem d_Md_readCond_193 : decode b_Md_readCond 193 = .ok (.ifCond .eq 39, 3) := by decide +kernel
theorem d_Md_readCond_196 : decode b_Md_readCond 196 = .ok (.aload_n 0, 1) := by decide +kernel
theorem d_Md_readCond_197 : decode b_Md_readCond 197 = .ok (.iconst 1, 1) := by decide +kernel
theorem d_Md_readCond_198 : decode b_Md_readCond 198 = .ok (.invokevirtual 218, 3) := by decide +kernel
theorem d_Md_readCond_201 : decode b_Md_readCond 201 = .ok (.aload_n 0, 1) := by decide +kernel
theorem d_Md_readCond_202 : decode b_Md_readCond 202 = .ok (.dup, 1) := by decide +kernel
theorem d_Md_readCond_203 : decode b_Md_readCond 203 = .ok (.getfield 176, 3) := by decide +kernel
theorem d_Md_readCond_206 : decode b_Md_readCond 206 = .ok (.iconst 1, 1) := by decide +kernel
theorem d_Md_readCond_207 : decode b_Md_readCond 207 = .ok (.isub, 1) := by decide +kernel
theorem d_Md_readCond_208 : decode b_Md_readCond 208 = .ok (.putfield 176, 3) := by decide +kernel
theorem d_Md_readCond_211 : decode b_Md_readCond 211 = .ok (.aload_n 0, 1) := by decide +kernel
theorem d_Md_readCond_212 : decode b_Md_readCond 212 = .ok (.dup, 1) := by decide +kernel
theorem d_Md_readCond_213 : decode b_Md_readCond 213 = .ok (.getfield 179, 3) := by decide +kernel
theorem d_Md_readCond_216 : decode b_Md_readCond 216 = .ok (.iconst 1, 1) := by decide +kernel
theorem d_Md_readCond_217 : decode b_Md_readCond 217 = .ok (.isub, 1) := by decide +kernel
theorem d_Md_readCond_218 : decode b_Md_readCond 218 = .ok (.putfield 179, 3) := by decide +kernel
theorem d_Md_readCond_221 : decode b_Md_readCond 221 = .ok (.aload_n 0, 1) := by decide +kernel
theorem d_Md_readCond_222 : decode b_Md_readCond 222 = .ok (.invokevirtual 167, 3) := by decide +kernel
theorem d_Md_readCond_225 : decode b_Md_readCond 225 = .ok (.aload_n 0, 1) := by decide +kernel
theorem d_Md_readCond_226 : decode b_Md_readCond 226 = .ok (.invokevirtual 212, 3) := by decide +kernel
theorem d_Md_readCond_229 : decode b_Md_readCond 229 = .ok (.goto (-196), 3) := by decide +kernel
theorem d_Md_readCond_232 : decode b_Md_readCond 232 = .ok (.aload_n 0, 1) := by decide +kernel
theorem d_Md_readCond_233 : decode b_Md_readCond 233 = .ok (.bipush 7, 2) := by decide +kernel
theorem d_Md_readCond_235 : decode b_Md_readCond 235 = .ok (.invokevirtual 170, 3) := by decide +kernel
theorem d_Md_readCond_238 : decode b_Md_readCond 238 = .ok (.ifCond .ne 12, 3) := by decide +kernel
theorem d_Md_readCond_241 : decode b_Md_readCond 241 = .ok (.aload_n 0, 1) := by decide +kernel
theorem d_Md_readCond_242 : decode b_Md_readCond 242 = .ok (.bipush 6, 2) := by decide +kernel
theorem d_Md_readCond_244 : decode b_Md_readCond 244 = .ok (.invokevirtual 170, 3) := by decide +kernel
theorem d_Md_readCond_247 : decode b_Md_readCond 247 = .ok (.ifCond .eq 44, 3) := by decide +kernel
theorem d_Md_readCond_250 : decode b_Md_readCond 250 = .ok (.aload_n 0, 1) := by decide +kernel
theorem d_Md_readCond_251 : decode b_Md_readCond 251 = .ok (.aload_n 0, 1) := by decide +kernel
theorem d_Md_readCond_252 : decode b_Md_readCond 252 = .ok (.bipush 6, 2) := by decide +kernel
theorem d_Md_readCond_254 : decode b_Md_readCond 254 = .ok (.invokevirtual 170, 3) := by decide +kernel
theorem d_Md_readCond_257 : decode b_Md_readCond 257 = .ok (.invokevirtual 218, 3) := by decide +kernel
theorem d_Md_readCond_260 : decode b_Md_readCond 260 = .ok (.aload_n 0, 1) := by decide +kernel
theorem d_Md_readCond_261 : decode b_Md_readCond 261 = .ok (.aload_n 0, 1) := by decide +kernel
theorem d_Md_readCond_262 : decode b_Md_readCond 262 = .ok (.bipush 7, 2) := by decide +kernel
theorem d_Md_readCond_264 : decode b_Md_readCond 264 = .ok (.invokevirtual 170, 3) := by decide +kernel
theorem d_Md_readCond_267 : decode b_Md_readCond 267 = .ok (.ifCond .eq 9, 3) := by decide +kernel
theorem d_Md_readCond_270 : decode b_Md_readCond 270 = .ok (.sipush 1003, 3) := by decide +kernel
theorem d_Md_readCond_273 : decode b_Md_readCond 273 = .ok (.goto 6, 3) := by decide +kernel
theorem d_Md_readCond_276 : decode b_Md_readCond 276 = .ok (.sipush 1004, 3) := by decide +kernel
theorem d_Md_readCond_279 : decode b_Md_readCond 279 = .ok (.invokevirtual 193, 3) := by decide +kernel
theorem d_Md_readCond_282 : decode b_Md_readCond 282 = .ok (.aload_n 0, 1) := by decide +kernel
theorem d_Md_readCond_283 : decode b_Md_readCond 283 = .ok (.invokevirtual 167, 3) := by decide +kernel
