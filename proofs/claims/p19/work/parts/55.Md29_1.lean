theorem d_Md_ask_125 : decode b_Md_ask 125 = .ok (.iload_n 3, 1) := by decide +kernel
theorem d_Md_ask_126 : decode b_Md_ask 126 = .ok (.iaload, 1) := by decide +kernel
theorem d_Md_ask_127 : decode b_Md_ask 127 = .ok (.ifCond .lt 7, 3) := by decide +kernel
theorem d_Md_ask_130 : decode b_Md_ask 130 = .ok (.iconst 1, 1) := by decide +kernel
theorem d_Md_ask_131 : decode b_Md_ask 131 = .ok (.goto 27, 3) := by decide +kernel
theorem d_Md_ask_134 : decode b_Md_ask 134 = .ok (.iconst 0, 1) := by decide +kernel
theorem d_Md_ask_135 : decode b_Md_ask 135 = .ok (.goto 23, 3) := by decide +kernel
theorem d_Md_ask_138 : decode b_Md_ask 138 = .ok (.iload_n 1, 1) := by decide +kernel
theorem d_Md_ask_139 : decode b_Md_ask 139 = .ok (.iconst 4, 1) := by decide +kernel
theorem d_Md_ask_140 : decode b_Md_ask 140 = .ok (.if_icmp .ne 16, 3) := by decide +kernel
theorem d_Md_ask_143 : decode b_Md_ask 143 = .ok (.iload 4, 2) := by decide +kernel
theorem d_Md_ask_145 : decode b_Md_ask 145 = .ok (.ifCond .ne 7, 3) := by decide +kernel
theorem d_Md_ask_148 : decode b_Md_ask 148 = .ok (.iconst 1, 1) := by decide +kernel
theorem d_Md_ask_149 : decode b_Md_ask 149 = .ok (.goto 9, 3) := by decide +kernel
theorem d_Md_ask_152 : decode b_Md_ask 152 = .ok (.iconst 0, 1) := by decide +kernel
theorem d_Md_ask_153 : decode b_Md_ask 153 = .ok (.goto 5, 3) := by decide +kernel
theorem d_Md_ask_156 : decode b_Md_ask 156 = .ok (.iload 4, 2) := by decide +kernel
theorem d_Md_ask_158 : decode b_Md_ask 158 = .ok (.bastore, 1) := by decide +kernel
theorem d_Md_ask_159 : decode b_Md_ask 159 = .ok (.iinc 3 1, 3) := by decide +kernel
theorem d_Md_ask_162 : decode b_Md_ask 162 = .ok (.goto (-80), 3) := by decide +kernel
theorem d_Md_ask_165 : decode b_Md_ask 165 = .ok (.iload_n 1, 1) := by decide +kernel
theorem d_Md_ask_166 : decode b_Md_ask 166 = .ok (.iconst 2, 1) := by decide +kernel
theorem d_Md_ask_167 : decode b_Md_ask 167 = .ok (.if_icmp .eq 8, 3) := by decide +kernel
theorem d_Md_ask_170 : decode b_Md_ask 170 = .ok (.iload_n 1, 1) := by decide +kernel
theorem d_Md_ask_171 : decode b_Md_ask 171 = .ok (.iconst 4, 1) := by decide +kernel
theorem d_Md_ask_172 : decode b_Md_ask 172 = .ok (.if_icmp .ne 10, 3) := by decide +kernel
theorem d_Md_ask_175 : decode b_Md_ask 175 = .ok (.aload_n 0, 1) := by decide +kernel
theorem d_Md_ask_176 : decode b_Md_ask 176 = .ok (.invokevirtual 285, 3) := by decide +kernel
theorem d_Md_ask_179 : decode b_Md_ask 179 = .ok (.goto 12, 3) := by decide +kernel
theorem d_Md_ask_182 : decode b_Md_ask 182 = .ok (.iload_n 1, 1) := by decide +kernel
theorem d_Md_ask_183 : decode b_Md_ask 183 = .ok (.iconst 3, 1) := by decide +kernel
theorem d_Md_ask_184 : decode b_Md_ask 184 = .ok (.if_icmp .ne 7, 3) := by decide +kernel
theorem d_Md_ask_187 : decode b_Md_ask 187 = .ok (.aload_n 0, 1) := by decide +kernel
theorem d_Md_ask_188 : decode b_Md_ask 188 = .ok (.invokevirtual 288, 3) := by decide +kernel
theorem d_Md_ask_191 : decode b_Md_ask 191 = .ok (.iconst 0, 1) := by decide +kernel
theorem d_Md_ask_192 : decode b_Md_ask 192 = .ok (.istore_n 3, 1) := by decide +kernel
theorem d_Md_ask_193 : decode b_Md_ask 193 = .ok (.iconst 0, 1) := by decide +kernel
theorem d_Md_ask_194 : decode b_Md_ask 194 = .ok (.istore 4, 2) := by decide +kernel
theorem d_Md_ask_196 : decode b_Md_ask 196 = .ok (.iload 4, 2) := by decide +kernel
theorem d_Md_ask_198 : decode b_Md_ask 198 = .ok (.sipush 4096, 3) := by decide +kernel
theorem d_Md_ask_201 : decode b_Md_ask 201 = .ok (.if_icmp .ge 37, 3) := by decide +kernel
theorem d_Md_ask_204 : decode b_Md_ask 204 = .ok (.iload_n 3, 1) := by decide +kernel
theorem d_Md_ask_205 : decode b_Md_ask 205 = .ok (.aload_n 0, 1) := by decide +kernel
theorem d_Md_ask_206 : decode b_Md_ask 206 = .ok (.getfield 85, 3) := by decide +kernel
theorem d_Md_ask_209 : decode b_Md_ask 209 = .ok (.iload 4, 2) := by decide +kernel
theorem d_Md_ask_211 : decode b_Md_ask 211 = .ok (.baload, 1) := by decide +kernel
theorem d_Md_ask_212 : decode b_Md_ask 212 = .ok (.iload_n 1, 1) := by decide +kernel
theorem d_Md_ask_213 : decode b_Md_ask 213 = .ok (.iconst 4, 1) := by decide +kernel
theorem d_Md_ask_214 : decode b_Md_ask 214 = .ok (.if_icmp .ne 7, 3) := by decide +kernel
theorem d_Md_ask_217 : decode b_Md_ask 217 = .ok (.iconst 1, 1) := by decide +kernel
theorem d_Md_ask_218 : decode b_Md_ask 218 = .ok (.goto 4, 3) := by decide +kernel
theorem d_Md_ask_221 : decode b_Md_ask 221 = .ok (.iconst 0, 1) := by decide +kernel
theorem d_Md_ask_222 : decode b_Md_ask 222 = .ok (.if_icmp .eq 7, 3) := by decide +kernel
theorem d_Md_ask_225 : decode b_Md_ask 225 = .ok (.iconst 1, 1) := by decide +kernel
theorem d_Md_ask_226 : decode b_Md_ask 226 = .ok (.goto 4, 3) := by decide +kernel
theorem d_Md_ask_229 : decode b_Md_ask 229 = .ok (.iconst 0, 1) := by decide +kernel
theorem d_Md_ask_230 : decode b_Md_ask 230 = .ok (.iadd, 1) := by decide +kernel
theorem d_Md_ask_231 : decode b_Md_ask 231 = .ok (.istore_n 3, 1) := by decide +kernel
theorem d_Md_ask_232 : decode b_Md_ask 232 = .ok (.iinc 4 1, 3) := by decide +kernel
theorem d_Md_ask_235 : decode b_Md_ask 235 = .ok (.goto (-39), 3) := by decide +kernel
theorem d_Md_ask_238 : decode b_Md_ask 238 = .ok (.iload_n 3, 1) := by decide +kernel
theorem d_Md_ask_239 : decode b_Md_ask 239 = .ok (.ireturn, 1) := by decide +kernel
