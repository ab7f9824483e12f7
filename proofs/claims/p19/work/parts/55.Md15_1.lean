theorem d_Md_goThrough_115 : decode b_Md_goThrough 115 = .ok (.iadd, 1) := by decide +kernel
theorem d_Md_goThrough_116 : decode b_Md_goThrough 116 = .ok (.iaload, 1) := by decide +kernel
theorem d_Md_goThrough_117 : decode b_Md_goThrough 117 = .ok (.iload_n 2, 1) := by decide +kernel
theorem d_Md_goThrough_118 : decode b_Md_goThrough 118 = .ok (.invokevirtual 252, 3) := by decide +kernel
theorem d_Md_goThrough_121 : decode b_Md_goThrough 121 = .ok (.iload_n 3, 1) := by decide +kernel
theorem d_Md_goThrough_122 : decode b_Md_goThrough 122 = .ok (.ishl, 1) := by decide +kernel
theorem d_Md_goThrough_123 : decode b_Md_goThrough 123 = .ok (.ior, 1) := by decide +kernel
theorem d_Md_goThrough_124 : decode b_Md_goThrough 124 = .ok (.iastore, 1) := by decide +kernel
theorem d_Md_goThrough_125 : decode b_Md_goThrough 125 = .ok (.iinc 3 1, 3) := by decide +kernel
theorem d_Md_goThrough_128 : decode b_Md_goThrough 128 = .ok (.goto (-50), 3) := by decide +kernel
theorem d_Md_goThrough_131 : decode b_Md_goThrough 131 = .ok (.iconst 0, 1) := by decide +kernel
theorem d_Md_goThrough_132 : decode b_Md_goThrough 132 = .ok (.istore_n 3, 1) := by decide +kernel
theorem d_Md_goThrough_133 : decode b_Md_goThrough 133 = .ok (.iload_n 3, 1) := by decide +kernel
theorem d_Md_goThrough_134 : decode b_Md_goThrough 134 = .ok (.bipush 6, 2) := by decide +kernel
theorem d_Md_goThrough_136 : decode b_Md_goThrough 136 = .ok (.if_icmp .ge 26, 3) := by decide +kernel
theorem d_Md_goThrough_139 : decode b_Md_goThrough 139 = .ok (.aload_n 0, 1) := by decide +kernel
theorem d_Md_goThrough_140 : decode b_Md_goThrough 140 = .ok (.getfield 63, 3) := by decide +kernel
theorem d_Md_goThrough_143 : decode b_Md_goThrough 143 = .ok (.bipush 6, 2) := by decide +kernel
theorem d_Md_goThrough_145 : decode b_Md_goThrough 145 = .ok (.iload_n 2, 1) := by decide +kernel
theorem d_Md_goThrough_146 : decode b_Md_goThrough 146 = .ok (.imul, 1) := by decide +kernel
theorem d_Md_goThrough_147 : decode b_Md_goThrough 147 = .ok (.iload_n 3, 1) := by decide +kernel
theorem d_Md_goThrough_148 : decode b_Md_goThrough 148 = .ok (.iadd, 1) := by decide +kernel
theorem d_Md_goThrough_149 : decode b_Md_goThrough 149 = .ok (.aload_n 0, 1) := by decide +kernel
theorem d_Md_goThrough_150 : decode b_Md_goThrough 150 = .ok (.iload_n 2, 1) := by decide +kernel
theorem d_Md_goThrough_151 : decode b_Md_goThrough 151 = .ok (.iload_n 3, 1) := by decide +kernel
theorem d_Md_goThrough_152 : decode b_Md_goThrough 152 = .ok (.invokevirtual 255, 3) := by decide +kernel
theorem d_Md_goThrough_155 : decode b_Md_goThrough 155 = .ok (.iastore, 1) := by decide +kernel
theorem d_Md_goThrough_156 : decode b_Md_goThrough 156 = .ok (.iinc 3 1, 3) := by decide +kernel
theorem d_Md_goThrough_159 : decode b_Md_goThrough 159 = .ok (.goto (-26), 3) := by decide +kernel
theorem d_Md_goThrough_162 : decode b_Md_goThrough 162 = .ok (.aload_n 0, 1) := by decide +kernel
theorem d_Md_goThrough_163 : decode b_Md_goThrough 163 = .ok (.getfield 73, 3) := by decide +kernel
theorem d_Md_goThrough_166 : decode b_Md_goThrough 166 = .ok (.iload_n 2, 1) := by decide +kernel
theorem d_Md_goThrough_167 : decode b_Md_goThrough 167 = .ok (.aload_n 0, 1) := by decide +kernel
theorem d_Md_goThrough_168 : decode b_Md_goThrough 168 = .ok (.getfield 66, 3) := by decide +kernel
theorem d_Md_goThrough_171 : decode b_Md_goThrough 171 = .ok (.iload_n 2, 1) := by decide +kernel
theorem d_Md_goThrough_172 : decode b_Md_goThrough 172 = .ok (.baload, 1) := by decide +kernel
theorem d_Md_goThrough_173 : decode b_Md_goThrough 173 = .ok (.ifCond .eq 7, 3) := by decide +kernel
theorem d_Md_goThrough_176 : decode b_Md_goThrough 176 = .ok (.iconst 0, 1) := by decide +kernel
theorem d_Md_goThrough_177 : decode b_Md_goThrough 177 = .ok (.goto 4, 3) := by decide +kernel
theorem d_Md_goThrough_180 : decode b_Md_goThrough 180 = .ok (.iconst (-1), 1) := by decide +kernel
theorem d_Md_goThrough_181 : decode b_Md_goThrough 181 = .ok (.iastore, 1) := by decide +kernel
theorem d_Md_goThrough_182 : decode b_Md_goThrough 182 = .ok (.aload_n 0, 1) := by decide +kernel
theorem d_Md_goThrough_183 : decode b_Md_goThrough 183 = .ok (.getfield 66, 3) := by decide +kernel
theorem d_Md_goThrough_186 : decode b_Md_goThrough 186 = .ok (.iload_n 2, 1) := by decide +kernel
theorem d_Md_goThrough_187 : decode b_Md_goThrough 187 = .ok (.baload, 1) := by decide +kernel
theorem d_Md_goThrough_188 : decode b_Md_goThrough 188 = .ok (.ifCond .eq 13, 3) := by decide +kernel
theorem d_Md_goThrough_191 : decode b_Md_goThrough 191 = .ok (.aload_n 0, 1) := by decide +kernel
theorem d_Md_goThrough_192 : decode b_Md_goThrough 192 = .ok (.getfield 76, 3) := by decide +kernel
theorem d_Md_goThrough_195 : decode b_Md_goThrough 195 = .ok (.iload_n 1, 1) := by decide +kernel
theorem d_Md_goThrough_196 : decode b_Md_goThrough 196 = .ok (.iload_n 2, 1) := by decide +kernel
theorem d_Md_goThrough_197 : decode b_Md_goThrough 197 = .ok (.iastore, 1) := by decide +kernel
theorem d_Md_goThrough_198 : decode b_Md_goThrough 198 = .ok (.iinc 1 1, 3) := by decide +kernel
theorem d_Md_goThrough_201 : decode b_Md_goThrough 201 = .ok (.iinc 2 1, 3) := by decide +kernel
theorem d_Md_goThrough_204 : decode b_Md_goThrough 204 = .ok (.goto (-200), 3) := by decide +kernel
theorem d_Md_goThrough_207 : decode b_Md_goThrough 207 = .ok (.iconst 0, 1) := by decide +kernel
theorem d_Md_goThrough_208 : decode b_Md_goThrough 208 = .ok (.istore_n 2, 1) := by decide +kernel
theorem d_Md_goThrough_209 : decode b_Md_goThrough 209 = .ok (.iload_n 2, 1) := by decide +kernel
theorem d_Md_goThrough_210 : decode b_Md_goThrough 210 = .ok (.iload_n 1, 1) := by decide +kernel
theorem d_Md_goThrough_211 : decode b_Md_goThrough 211 = .ok (.if_icmp .ge 87, 3) := by decide +kernel
theorem d_Md_goThrough_214 : decode b_Md_goThrough 214 = .ok (.aload_n 0, 1) := by decide +kernel
theorem d_Md_goThrough_215 : decode b_Md_goThrough 215 = .ok (.getfield 76, 3) := by decide +kernel
theorem d_Md_goThrough_218 : decode b_Md_goThrough 218 = .ok (.iload_n 2, 1) := by decide +kernel
theorem d_Md_goThrough_219 : decode b_Md_goThrough 219 = .ok (.iaload, 1) := by decide +kernel
theorem d_Md_goThrough_220 : decode b_Md_goThrough 220 = .ok (.istore_n 3, 1) := by decide +kernel
theorem d_Md_goThrough_221 : decode b_Md_goThrough 221 = .ok (.iconst 0, 1) := by decide +kernel
theorem d_Md_goThrough_222 : decode b_Md_goThrough 222 = .ok (.istore 4, 2) := by decide +kernel
theorem d_Md_goThrough_224 : decode b_Md_goThrough 224 = .ok (.iload 4, 2) := by decide +kernel
theorem d_Md_goThrough_226 : decode b_Md_goThrough 226 = .ok (.bipush 6, 2) := by decide +kernel
theorem d_Md_goThrough_228 : decode b_Md_goThrough 228 = .ok (.if_icmp .ge 64, 3) := by decide +kernel
theorem d_Md_goThrough_231 : decode b_Md_goThrough 231 = .ok (.aload_n 0, 1) := by decide +kernel
