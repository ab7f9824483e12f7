theorem d_Md_longest_125 : decode b_Md_longest 125 = .ok (.ifCond .ge 7, 3) := by decide +kernel
theorem d_Md_longest_128 : decode b_Md_longest 128 = .ok (.iconst (-1), 1) := by decide +kernel
theorem d_Md_longest_129 : decode b_Md_longest 129 = .ok (.goto 31, 3) := by decide +kernel
theorem d_Md_longest_132 : decode b_Md_longest 132 = .ok (.aload_n 0, 1) := by decide +kernel
theorem d_Md_longest_133 : decode b_Md_longest 133 = .ok (.getfield 91, 3) := by decide +kernel
theorem d_Md_longest_136 : decode b_Md_longest 136 = .ok (.iload 6, 2) := by decide +kernel
theorem d_Md_longest_138 : decode b_Md_longest 138 = .ok (.iaload, 1) := by decide +kernel
theorem d_Md_longest_139 : decode b_Md_longest 139 = .ok (.iconst 1, 1) := by decide +kernel
theorem d_Md_longest_140 : decode b_Md_longest 140 = .ok (.iadd, 1) := by decide +kernel
theorem d_Md_longest_141 : decode b_Md_longest 141 = .ok (.iload 4, 2) := by decide +kernel
theorem d_Md_longest_143 : decode b_Md_longest 143 = .ok (.if_icmp .le 15, 3) := by decide +kernel
theorem d_Md_longest_146 : decode b_Md_longest 146 = .ok (.aload_n 0, 1) := by decide +kernel
theorem d_Md_longest_147 : decode b_Md_longest 147 = .ok (.getfield 91, 3) := by decide +kernel
theorem d_Md_longest_150 : decode b_Md_longest 150 = .ok (.iload 6, 2) := by decide +kernel
theorem d_Md_longest_152 : decode b_Md_longest 152 = .ok (.iaload, 1) := by decide +kernel
theorem d_Md_longest_153 : decode b_Md_longest 153 = .ok (.iconst 1, 1) := by decide +kernel
theorem d_Md_longest_154 : decode b_Md_longest 154 = .ok (.iadd, 1) := by decide +kernel
theorem d_Md_longest_155 : decode b_Md_longest 155 = .ok (.goto 5, 3) := by decide +kernel
theorem d_Md_longest_158 : decode b_Md_longest 158 = .ok (.iload 4, 2) := by decide +kernel
theorem d_Md_longest_160 : decode b_Md_longest 160 = .ok (.istore 4, 2) := by decide +kernel
theorem d_Md_longest_162 : decode b_Md_longest 162 = .ok (.iinc 5 1, 3) := by decide +kernel
theorem d_Md_longest_165 : decode b_Md_longest 165 = .ok (.goto (-83), 3) := by decide +kernel
theorem d_Md_longest_168 : decode b_Md_longest 168 = .ok (.aload_n 0, 1) := by decide +kernel
theorem d_Md_longest_169 : decode b_Md_longest 169 = .ok (.getfield 91, 3) := by decide +kernel
theorem d_Md_longest_172 : decode b_Md_longest 172 = .ok (.iload_n 3, 1) := by decide +kernel
theorem d_Md_longest_173 : decode b_Md_longest 173 = .ok (.iload 4, 2) := by decide +kernel
theorem d_Md_longest_175 : decode b_Md_longest 175 = .ok (.iastore, 1) := by decide +kernel
theorem d_Md_longest_176 : decode b_Md_longest 176 = .ok (.iload_n 1, 1) := by decide +kernel
theorem d_Md_longest_177 : decode b_Md_longest 177 = .ok (.ifCond .ne 8, 3) := by decide +kernel
theorem d_Md_longest_180 : decode b_Md_longest 180 = .ok (.iload 4, 2) := by decide +kernel
theorem d_Md_longest_182 : decode b_Md_longest 182 = .ok (.ifCond .lt 7, 3) := by decide +kernel
theorem d_Md_longest_185 : decode b_Md_longest 185 = .ok (.iconst 1, 1) := by decide +kernel
theorem d_Md_longest_186 : decode b_Md_longest 186 = .ok (.goto 4, 3) := by decide +kernel
theorem d_Md_longest_189 : decode b_Md_longest 189 = .ok (.iconst 0, 1) := by decide +kernel
theorem d_Md_longest_190 : decode b_Md_longest 190 = .ok (.istore_n 1, 1) := by decide +kernel
theorem d_Md_longest_191 : decode b_Md_longest 191 = .ok (.iinc 2 1, 3) := by decide +kernel
theorem d_Md_longest_194 : decode b_Md_longest 194 = .ok (.goto (-145), 3) := by decide +kernel
theorem d_Md_longest_197 : decode b_Md_longest 197 = .ok (.goto (-156), 3) := by decide +kernel
theorem d_Md_longest_200 : decode b_Md_longest 200 = .ok (.iconst 0, 1) := by decide +kernel
theorem d_Md_longest_201 : decode b_Md_longest 201 = .ok (.istore_n 2, 1) := by decide +kernel
theorem d_Md_longest_202 : decode b_Md_longest 202 = .ok (.iconst 0, 1) := by decide +kernel
theorem d_Md_longest_203 : decode b_Md_longest 203 = .ok (.istore_n 3, 1) := by decide +kernel
theorem d_Md_longest_204 : decode b_Md_longest 204 = .ok (.iload_n 3, 1) := by decide +kernel
theorem d_Md_longest_205 : decode b_Md_longest 205 = .ok (.sipush 4096, 3) := by decide +kernel
theorem d_Md_longest_208 : decode b_Md_longest 208 = .ok (.if_icmp .ge 61, 3) := by decide +kernel
theorem d_Md_longest_211 : decode b_Md_longest 211 = .ok (.aload_n 0, 1) := by decide +kernel
theorem d_Md_longest_212 : decode b_Md_longest 212 = .ok (.getfield 73, 3) := by decide +kernel
theorem d_Md_longest_215 : decode b_Md_longest 215 = .ok (.iload_n 3, 1) := by decide +kernel
theorem d_Md_longest_216 : decode b_Md_longest 216 = .ok (.iaload, 1) := by decide +kernel
theorem d_Md_longest_217 : decode b_Md_longest 217 = .ok (.ifCond .lt 16, 3) := by decide +kernel
theorem d_Md_longest_220 : decode b_Md_longest 220 = .ok (.aload_n 0, 1) := by decide +kernel
theorem d_Md_longest_221 : decode b_Md_longest 221 = .ok (.getfield 91, 3) := by decide +kernel
theorem d_Md_longest_224 : decode b_Md_longest 224 = .ok (.iload_n 3, 1) := by decide +kernel
theorem d_Md_longest_225 : decode b_Md_longest 225 = .ok (.iaload, 1) := by decide +kernel
theorem d_Md_longest_226 : decode b_Md_longest 226 = .ok (.ifCond .ge 7, 3) := by decide +kernel
theorem d_Md_longest_229 : decode b_Md_longest 229 = .ok (.sipush 5000, 3) := by decide +kernel
theorem d_Md_longest_232 : decode b_Md_longest 232 = .ok (.ireturn, 1) := by decide +kernel
theorem d_Md_longest_233 : decode b_Md_longest 233 = .ok (.aload_n 0, 1) := by decide +kernel
theorem d_Md_longest_234 : decode b_Md_longest 234 = .ok (.getfield 66, 3) := by decide +kernel
theorem d_Md_longest_237 : decode b_Md_longest 237 = .ok (.iload_n 3, 1) := by decide +kernel
theorem d_Md_longest_238 : decode b_Md_longest 238 = .ok (.baload, 1) := by decide +kernel
theorem d_Md_longest_239 : decode b_Md_longest 239 = .ok (.ifCond .eq 22, 3) := by decide +kernel
theorem d_Md_longest_242 : decode b_Md_longest 242 = .ok (.aload_n 0, 1) := by decide +kernel
theorem d_Md_longest_243 : decode b_Md_longest 243 = .ok (.getfield 91, 3) := by decide +kernel
theorem d_Md_longest_246 : decode b_Md_longest 246 = .ok (.iload_n 3, 1) := by decide +kernel
theorem d_Md_longest_247 : decode b_Md_longest 247 = .ok (.iaload, 1) := by decide +kernel
theorem d_Md_longest_248 : decode b_Md_longest 248 = .ok (.iload_n 2, 1) := by decide +kernel
theorem d_Md_longest_249 : decode b_Md_longest 249 = .ok (.if_icmp .le 12, 3) := by decide +kernel
theorem d_Md_longest_252 : decode b_Md_longest 252 = .ok (.aload_n 0, 1) := by decide +kernel
theorem d_Md_longest_253 : decode b_Md_longest 253 = .ok (.getfield 91, 3) := by decide +kernel
