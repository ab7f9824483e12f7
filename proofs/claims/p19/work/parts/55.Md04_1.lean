theorem d_Md_readExp_143 : decode b_Md_readExp 143 = .ok (.iload_n 2, 1) := by decide +kernel
theorem d_Md_readExp_144 : decode b_Md_readExp 144 = .ok (.aload_n 0, 1) := by decide +kernel
theorem d_Md_readExp_145 : decode b_Md_readExp 145 = .ok (.bipush 40, 2) := by decide +kernel
theorem d_Md_readExp_147 : decode b_Md_readExp 147 = .ok (.invokevirtual 161, 3) := by decide +kernel
theorem d_Md_readExp_150 : decode b_Md_readExp 150 = .ok (.ifCond .eq 7, 3) := by decide +kernel
theorem d_Md_readExp_153 : decode b_Md_readExp 153 = .ok (.iconst 1, 1) := by decide +kernel
theorem d_Md_readExp_154 : decode b_Md_readExp 154 = .ok (.goto 4, 3) := by decide +kernel
theorem d_Md_readExp_157 : decode b_Md_readExp 157 = .ok (.iconst 0, 1) := by decide +kernel
theorem d_Md_readExp_158 : decode b_Md_readExp 158 = .ok (.iadd, 1) := by decide +kernel
theorem d_Md_readExp_159 : decode b_Md_readExp 159 = .ok (.istore_n 2, 1) := by decide +kernel
theorem d_Md_readExp_160 : decode b_Md_readExp 160 = .ok (.aload_n 0, 1) := by decide +kernel
theorem d_Md_readExp_161 : decode b_Md_readExp 161 = .ok (.aload_n 0, 1) := by decide +kernel
theorem d_Md_readExp_162 : decode b_Md_readExp 162 = .ok (.bipush 40, 2) := by decide +kernel
theorem d_Md_readExp_164 : decode b_Md_readExp 164 = .ok (.invokevirtual 161, 3) := by decide +kernel
theorem d_Md_readExp_167 : decode b_Md_readExp 167 = .ok (.ifCond .eq 8, 3) := by decide +kernel
theorem d_Md_readExp_170 : decode b_Md_readExp 170 = .ok (.bipush 40, 2) := by decide +kernel
theorem d_Md_readExp_172 : decode b_Md_readExp 172 = .ok (.goto 6, 3) := by decide +kernel
theorem d_Md_readExp_175 : decode b_Md_readExp 175 = .ok (.sipush 1000, 3) := by decide +kernel
theorem d_Md_readExp_178 : decode b_Md_readExp 178 = .ok (.invokevirtual 193, 3) := by decide +kernel
theorem d_Md_readExp_181 : decode b_Md_readExp 181 = .ok (.aload_n 0, 1) := by decide +kernel
theorem d_Md_readExp_182 : decode b_Md_readExp 182 = .ok (.invokevirtual 167, 3) := by decide +kernel
theorem d_Md_readExp_185 : decode b_Md_readExp 185 = .ok (.goto 60, 3) := by decide +kernel
theorem d_Md_readExp_188 : decode b_Md_readExp 188 = .ok (.aload_n 0, 1) := by decide +kernel
theorem d_Md_readExp_189 : decode b_Md_readExp 189 = .ok (.dup, 1) := by decide +kernel
theorem d_Md_readExp_190 : decode b_Md_readExp 190 = .ok (.getfield 186, 3) := by decide +kernel
theorem d_Md_readExp_193 : decode b_Md_readExp 193 = .ok (.iconst 1, 1) := by decide +kernel
theorem d_Md_readExp_194 : decode b_Md_readExp 194 = .ok (.iadd, 1) := by decide +kernel
theorem d_Md_readExp_195 : decode b_Md_readExp 195 = .ok (.putfield 186, 3) := by decide +kernel
theorem d_Md_readExp_198 : decode b_Md_readExp 198 = .ok (.aload_n 0, 1) := by decide +kernel
theorem d_Md_readExp_199 : decode b_Md_readExp 199 = .ok (.iload 6, 2) := by decide +kernel
theorem d_Md_readExp_201 : decode b_Md_readExp 201 = .ok (.ifCond .eq 7, 3) := by decide +kernel
theorem d_Md_readExp_204 : decode b_Md_readExp 204 = .ok (.iconst 2, 1) := by decide +kernel
theorem d_Md_readExp_205 : decode b_Md_readExp 205 = .ok (.goto 4, 3) := by decide +kernel
theorem d_Md_readExp_208 : decode b_Md_readExp 208 = .ok (.iconst 1, 1) := by decide +kernel
theorem d_Md_readExp_209 : decode b_Md_readExp 209 = .ok (.iload 6, 2) := by decide +kernel
theorem d_Md_readExp_211 : decode b_Md_readExp 211 = .ok (.ifCond .eq 16, 3) := by decide +kernel
theorem d_Md_readExp_214 : decode b_Md_readExp 214 = .ok (.aload_n 0, 1) := by decide +kernel
theorem d_Md_readExp_215 : decode b_Md_readExp 215 = .ok (.getfield 131, 3) := by decide +kernel
theorem d_Md_readExp_218 : decode b_Md_readExp 218 = .ok (.bipush 10, 2) := by decide +kernel
theorem d_Md_readExp_220 : decode b_Md_readExp 220 = .ok (.isub, 1) := by decide +kernel
theorem d_Md_readExp_221 : decode b_Md_readExp 221 = .ok (.bipush 9, 2) := by decide +kernel
theorem d_Md_readExp_223 : decode b_Md_readExp 223 = .ok (.isub, 1) := by decide +kernel
theorem d_Md_readExp_224 : decode b_Md_readExp 224 = .ok (.goto 7, 3) := by decide +kernel
theorem d_Md_readExp_227 : decode b_Md_readExp 227 = .ok (.aload_n 0, 1) := by decide +kernel
theorem d_Md_readExp_228 : decode b_Md_readExp 228 = .ok (.getfield 145, 3) := by decide +kernel
theorem d_Md_readExp_231 : decode b_Md_readExp 231 = .ok (.invokevirtual 182, 3) := by decide +kernel
theorem d_Md_readExp_234 : decode b_Md_readExp 234 = .ok (.aload_n 0, 1) := by decide +kernel
theorem d_Md_readExp_235 : decode b_Md_readExp 235 = .ok (.invokevirtual 167, 3) := by decide +kernel
theorem d_Md_readExp_238 : decode b_Md_readExp 238 = .ok (.aload_n 0, 1) := by decide +kernel
theorem d_Md_readExp_239 : decode b_Md_readExp 239 = .ok (.iload_n 1, 1) := by decide +kernel
theorem d_Md_readExp_240 : decode b_Md_readExp 240 = .ok (.invokevirtual 197, 3) := by decide +kernel
theorem d_Md_readExp_243 : decode b_Md_readExp 243 = .ok (.iconst 0, 1) := by decide +kernel
theorem d_Md_readExp_244 : decode b_Md_readExp 244 = .ok (.istore_n 3, 1) := by decide +kernel
theorem d_Md_readExp_245 : decode b_Md_readExp 245 = .ok (.goto (-233), 3) := by decide +kernel
theorem d_Md_readExp_248 : decode b_Md_readExp 248 = .ok (.aload_n 0, 1) := by decide +kernel
theorem d_Md_readExp_249 : decode b_Md_readExp 249 = .ok (.bipush 41, 2) := by decide +kernel
theorem d_Md_readExp_251 : decode b_Md_readExp 251 = .ok (.invokevirtual 161, 3) := by decide +kernel
theorem d_Md_readExp_254 : decode b_Md_readExp 254 = .ok (.ifCond .eq 47, 3) := by decide +kernel
theorem d_Md_readExp_257 : decode b_Md_readExp 257 = .ok (.iload_n 2, 1) := by decide +kernel
theorem d_Md_readExp_258 : decode b_Md_readExp 258 = .ok (.ifCond .le 43, 3) := by decide +kernel
theorem d_Md_readExp_261 : decode b_Md_readExp 261 = .ok (.aload_n 0, 1) := by decide +kernel
theorem d_Md_readExp_262 : decode b_Md_readExp 262 = .ok (.iload_n 1, 1) := by decide +kernel
theorem d_Md_readExp_263 : decode b_Md_readExp 263 = .ok (.invokevirtual 200, 3) := by decide +kernel
theorem d_Md_readExp_266 : decode b_Md_readExp 266 = .ok (.aload_n 0, 1) := by decide +kernel
theorem d_Md_readExp_267 : decode b_Md_readExp 267 = .ok (.dup, 1) := by decide +kernel
theorem d_Md_readExp_268 : decode b_Md_readExp 268 = .ok (.getfield 176, 3) := by decide +kernel
theorem d_Md_readExp_271 : decode b_Md_readExp 271 = .ok (.iconst 1, 1) := by decide +kernel
theorem d_Md_readExp_272 : decode b_Md_readExp 272 = .ok (.isub, 1) := by decide +kernel
theorem d_Md_readExp_273 : decode b_Md_readExp 273 = .ok (.putfield 176, 3) := by decide +kernel
theorem d_Md_readExp_276 : decode b_Md_readExp 276 = .ok (.iinc 2 (-1), 3) := by decide +kernel
