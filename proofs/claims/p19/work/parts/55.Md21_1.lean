theorem d_Md_markRuns_120 : decode b_Md_markRuns 120 = .ok (.sipush 4096, 3) := by decide +kernel
theorem d_Md_markRuns_123 : decode b_Md_markRuns 123 = .ok (.if_icmp .ge 97, 3) := by decide +kernel
theorem d_Md_markRuns_126 : decode b_Md_markRuns 126 = .ok (.iconst 0, 1) := by decide +kernel
theorem d_Md_markRuns_127 : decode b_Md_markRuns 127 = .ok (.istore 4, 2) := by decide +kernel
theorem d_Md_markRuns_129 : decode b_Md_markRuns 129 = .ok (.iload 4, 2) := by decide +kernel
theorem d_Md_markRuns_131 : decode b_Md_markRuns 131 = .ok (.bipush 6, 2) := by decide +kernel
theorem d_Md_markRuns_133 : decode b_Md_markRuns 133 = .ok (.if_icmp .ge 81, 3) := by decide +kernel
theorem d_Md_markRuns_136 : decode b_Md_markRuns 136 = .ok (.aload_n 0, 1) := by decide +kernel
theorem d_Md_markRuns_137 : decode b_Md_markRuns 137 = .ok (.getfield 73, 3) := by decide +kernel
theorem d_Md_markRuns_140 : decode b_Md_markRuns 140 = .ok (.iload_n 3, 1) := by decide +kernel
theorem d_Md_markRuns_141 : decode b_Md_markRuns 141 = .ok (.iaload, 1) := by decide +kernel
theorem d_Md_markRuns_142 : decode b_Md_markRuns 142 = .ok (.iload_n 2, 1) := by decide +kernel
theorem d_Md_markRuns_143 : decode b_Md_markRuns 143 = .ok (.if_icmp .ne 71, 3) := by decide +kernel
theorem d_Md_markRuns_146 : decode b_Md_markRuns 146 = .ok (.aload_n 0, 1) := by decide +kernel
theorem d_Md_markRuns_147 : decode b_Md_markRuns 147 = .ok (.getfield 63, 3) := by decide +kernel
theorem d_Md_markRuns_150 : decode b_Md_markRuns 150 = .ok (.bipush 6, 2) := by decide +kernel
theorem d_Md_markRuns_152 : decode b_Md_markRuns 152 = .ok (.iload_n 3, 1) := by decide +kernel
theorem d_Md_markRuns_153 : decode b_Md_markRuns 153 = .ok (.imul, 1) := by decide +kernel
theorem d_Md_markRuns_154 : decode b_Md_markRuns 154 = .ok (.iload 4, 2) := by decide +kernel
theorem d_Md_markRuns_156 : decode b_Md_markRuns 156 = .ok (.iadd, 1) := by decide +kernel
theorem d_Md_markRuns_157 : decode b_Md_markRuns 157 = .ok (.iaload, 1) := by decide +kernel
theorem d_Md_markRuns_158 : decode b_Md_markRuns 158 = .ok (.istore 5, 2) := by decide +kernel
theorem d_Md_markRuns_160 : decode b_Md_markRuns 160 = .ok (.aload_n 0, 1) := by decide +kernel
theorem d_Md_markRuns_161 : decode b_Md_markRuns 161 = .ok (.getfield 85, 3) := by decide +kernel
theorem d_Md_markRuns_164 : decode b_Md_markRuns 164 = .ok (.iload_n 3, 1) := by decide +kernel
theorem d_Md_markRuns_165 : decode b_Md_markRuns 165 = .ok (.aload_n 0, 1) := by decide +kernel
theorem d_Md_markRuns_166 : decode b_Md_markRuns 166 = .ok (.getfield 85, 3) := by decide +kernel
theorem d_Md_markRuns_169 : decode b_Md_markRuns 169 = .ok (.iload_n 3, 1) := by decide +kernel
theorem d_Md_markRuns_170 : decode b_Md_markRuns 170 = .ok (.baload, 1) := by decide +kernel
theorem d_Md_markRuns_171 : decode b_Md_markRuns 171 = .ok (.ifCond .ne 31, 3) := by decide +kernel
theorem d_Md_markRuns_174 : decode b_Md_markRuns 174 = .ok (.iload 5, 2) := by decide +kernel
theorem d_Md_markRuns_176 : decode b_Md_markRuns 176 = .ok (.ifCond .lt 30, 3) := by decide +kernel
theorem d_Md_markRuns_179 : decode b_Md_markRuns 179 = .ok (.aload_n 0, 1) := by decide +kernel
theorem d_Md_markRuns_180 : decode b_Md_markRuns 180 = .ok (.getfield 73, 3) := by decide +kernel
theorem d_Md_markRuns_183 : decode b_Md_markRuns 183 = .ok (.iload 5, 2) := by decide +kernel
theorem d_Md_markRuns_185 : decode b_Md_markRuns 185 = .ok (.iaload, 1) := by decide +kernel
theorem d_Md_markRuns_186 : decode b_Md_markRuns 186 = .ok (.iload_n 2, 1) := by decide +kernel
theorem d_Md_markRuns_187 : decode b_Md_markRuns 187 = .ok (.iconst 1, 1) := by decide +kernel
theorem d_Md_markRuns_188 : decode b_Md_markRuns 188 = .ok (.iadd, 1) := by decide +kernel
theorem d_Md_markRuns_189 : decode b_Md_markRuns 189 = .ok (.if_icmp .ne 17, 3) := by decide +kernel
theorem d_Md_markRuns_192 : decode b_Md_markRuns 192 = .ok (.aload_n 0, 1) := by decide +kernel
theorem d_Md_markRuns_193 : decode b_Md_markRuns 193 = .ok (.getfield 85, 3) := by decide +kernel
theorem d_Md_markRuns_196 : decode b_Md_markRuns 196 = .ok (.iload 5, 2) := by decide +kernel
theorem d_Md_markRuns_198 : decode b_Md_markRuns 198 = .ok (.baload, 1) := by decide +kernel
theorem d_Md_markRuns_199 : decode b_Md_markRuns 199 = .ok (.ifCond .eq 7, 3) := by decide +kernel
theorem d_Md_markRuns_202 : decode b_Md_markRuns 202 = .ok (.iconst 1, 1) := by decide +kernel
theorem d_Md_markRuns_203 : decode b_Md_markRuns 203 = .ok (.goto 4, 3) := by decide +kernel
theorem d_Md_markRuns_206 : decode b_Md_markRuns 206 = .ok (.iconst 0, 1) := by decide +kernel
theorem d_Md_markRuns_207 : decode b_Md_markRuns 207 = .ok (.bastore, 1) := by decide +kernel
theorem d_Md_markRuns_208 : decode b_Md_markRuns 208 = .ok (.iinc 4 1, 3) := by decide +kernel
theorem d_Md_markRuns_211 : decode b_Md_markRuns 211 = .ok (.goto (-82), 3) := by decide +kernel
theorem d_Md_markRuns_214 : decode b_Md_markRuns 214 = .ok (.iinc 3 1, 3) := by decide +kernel
theorem d_Md_markRuns_217 : decode b_Md_markRuns 217 = .ok (.goto (-98), 3) := by decide +kernel
theorem d_Md_markRuns_220 : decode b_Md_markRuns 220 = .ok (.iinc 2 (-1), 3) := by decide +kernel
theorem d_Md_markRuns_223 : decode b_Md_markRuns 223 = .ok (.goto (-110), 3) := by decide +kernel
theorem d_Md_markRuns_226 : decode b_Md_markRuns 226 = .ok (.iload_n 1, 1) := by decide +kernel
theorem d_Md_markRuns_227 : decode b_Md_markRuns 227 = .ok (.ireturn, 1) := by decide +kernel
