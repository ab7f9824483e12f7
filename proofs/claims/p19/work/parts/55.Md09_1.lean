theorem d_Md_readLoop_130 : decode b_Md_readLoop 130 = .ok (.aload_n 0, 1) := by decide +kernel
theorem d_Md_readLoop_131 : decode b_Md_readLoop 131 = .ok (.iconst 4, 1) := by decide +kernel
theorem d_Md_readLoop_132 : decode b_Md_readLoop 132 = .ok (.invokevirtual 170, 3) := by decide +kernel
theorem d_Md_readLoop_135 : decode b_Md_readLoop 135 = .ok (.ifCond .eq 64, 3) := by decide +kernel
theorem d_Md_readLoop_138 : decode b_Md_readLoop 138 = .ok (.aload_n 0, 1) := by decide +kernel
theorem d_Md_readLoop_139 : decode b_Md_readLoop 139 = .ok (.getfield 51, 3) := by decide +kernel
theorem d_Md_readLoop_142 : decode b_Md_readLoop 142 = .ok (.iload_n 1, 1) := by decide +kernel
theorem d_Md_readLoop_143 : decode b_Md_readLoop 143 = .ok (.iaload, 1) := by decide +kernel
theorem d_Md_readLoop_144 : decode b_Md_readLoop 144 = .ok (.bipush 12, 2) := by decide +kernel
theorem d_Md_readLoop_146 : decode b_Md_readLoop 146 = .ok (.if_icmp .ne 10, 3) := by decide +kernel
theorem d_Md_readLoop_149 : decode b_Md_readLoop 149 = .ok (.aload_n 0, 1) := by decide +kernel
theorem d_Md_readLoop_150 : decode b_Md_readLoop 150 = .ok (.invokevirtual 164, 3) := by decide +kernel
theorem d_Md_readLoop_153 : decode b_Md_readLoop 153 = .ok (.goto (-30), 3) := by decide +kernel
theorem d_Md_readLoop_156 : decode b_Md_readLoop 156 = .ok (.aload_n 0, 1) := by decide +kernel
theorem d_Md_readLoop_157 : decode b_Md_readLoop 157 = .ok (.invokevirtual 167, 3) := by decide +kernel
theorem d_Md_readLoop_160 : decode b_Md_readLoop 160 = .ok (.aload_n 0, 1) := by decide +kernel
theorem d_Md_readLoop_161 : decode b_Md_readLoop 161 = .ok (.getfield 54, 3) := by decide +kernel
theorem d_Md_readLoop_164 : decode b_Md_readLoop 164 = .ok (.bipush 12, 2) := by decide +kernel
theorem d_Md_readLoop_166 : decode b_Md_readLoop 166 = .ok (.iload_n 1, 1) := by decide +kernel
theorem d_Md_readLoop_167 : decode b_Md_readLoop 167 = .ok (.imul, 1) := by decide +kernel
theorem d_Md_readLoop_168 : decode b_Md_readLoop 168 = .ok (.aload_n 0, 1) := by decide +kernel
theorem d_Md_readLoop_169 : decode b_Md_readLoop 169 = .ok (.getfield 51, 3) := by decide +kernel
theorem d_Md_readLoop_172 : decode b_Md_readLoop 172 = .ok (.iload_n 1, 1) := by decide +kernel
theorem d_Md_readLoop_173 : decode b_Md_readLoop 173 = .ok (.iaload, 1) := by decide +kernel
theorem d_Md_readLoop_174 : decode b_Md_readLoop 174 = .ok (.iadd, 1) := by decide +kernel
theorem d_Md_readLoop_175 : decode b_Md_readLoop 175 = .ok (.aload_n 0, 1) := by decide +kernel
theorem d_Md_readLoop_176 : decode b_Md_readLoop 176 = .ok (.invokevirtual 225, 3) := by decide +kernel
theorem d_Md_readLoop_179 : decode b_Md_readLoop 179 = .ok (.iastore, 1) := by decide +kernel
theorem d_Md_readLoop_180 : decode b_Md_readLoop 180 = .ok (.aload_n 0, 1) := by decide +kernel
theorem d_Md_readLoop_181 : decode b_Md_readLoop 181 = .ok (.getfield 51, 3) := by decide +kernel
theorem d_Md_readLoop_184 : decode b_Md_readLoop 184 = .ok (.iload_n 1, 1) := by decide +kernel
theorem d_Md_readLoop_185 : decode b_Md_readLoop 185 = .ok (.dup2, 1) := by decide +kernel
theorem d_Md_readLoop_186 : decode b_Md_readLoop 186 = .ok (.iaload, 1) := by decide +kernel
theorem d_Md_readLoop_187 : decode b_Md_readLoop 187 = .ok (.iconst 1, 1) := by decide +kernel
theorem d_Md_readLoop_188 : decode b_Md_readLoop 188 = .ok (.iadd, 1) := by decide +kernel
theorem d_Md_readLoop_189 : decode b_Md_readLoop 189 = .ok (.iastore, 1) := by decide +kernel
theorem d_Md_readLoop_190 : decode b_Md_readLoop 190 = .ok (.aload_n 0, 1) := by decide +kernel
theorem d_Md_readLoop_191 : decode b_Md_readLoop 191 = .ok (.bipush 59, 2) := by decide +kernel
theorem d_Md_readLoop_193 : decode b_Md_readLoop 193 = .ok (.invokevirtual 229, 3) := by decide +kernel
theorem d_Md_readLoop_196 : decode b_Md_readLoop 196 = .ok (.goto (-73), 3) := by decide +kernel
theorem d_Md_readLoop_199 : decode b_Md_readLoop 199 = .ok (.aload_n 0, 1) := by decide +kernel
theorem d_Md_readLoop_200 : decode b_Md_readLoop 200 = .ok (.getfield 154, 3) := by decide +kernel
theorem d_Md_readLoop_203 : decode b_Md_readLoop 203 = .ok (.ifCond .ne 31, 3) := by decide +kernel
theorem d_Md_readLoop_206 : decode b_Md_readLoop 206 = .ok (.aload_n 0, 1) := by decide +kernel
theorem d_Md_readLoop_207 : decode b_Md_readLoop 207 = .ok (.iconst 5, 1) := by decide +kernel
theorem d_Md_readLoop_208 : decode b_Md_readLoop 208 = .ok (.invokevirtual 170, 3) := by decide +kernel
theorem d_Md_readLoop_211 : decode b_Md_readLoop 211 = .ok (.ifCond .eq 23, 3) := by decide +kernel
theorem d_Md_readLoop_214 : decode b_Md_readLoop 214 = .ok (.aload_n 0, 1) := by decide +kernel
theorem d_Md_readLoop_215 : decode b_Md_readLoop 215 = .ok (.invokevirtual 167, 3) := by decide +kernel
theorem d_Md_readLoop_218 : decode b_Md_readLoop 218 = .ok (.aload_n 0, 1) := by decide +kernel
theorem d_Md_readLoop_219 : decode b_Md_readLoop 219 = .ok (.getfield 39, 3) := by decide +kernel
theorem d_Md_readLoop_222 : decode b_Md_readLoop 222 = .ok (.iload_n 1, 1) := by decide +kernel
theorem d_Md_readLoop_223 : decode b_Md_readLoop 223 = .ok (.aload_n 0, 1) := by decide +kernel
theorem d_Md_readLoop_224 : decode b_Md_readLoop 224 = .ok (.invokevirtual 235, 3) := by decide +kernel
theorem d_Md_readLoop_227 : decode b_Md_readLoop 227 = .ok (.iastore, 1) := by decide +kernel
theorem d_Md_readLoop_228 : decode b_Md_readLoop 228 = .ok (.aload_n 0, 1) := by decide +kernel
theorem d_Md_readLoop_229 : decode b_Md_readLoop 229 = .ok (.bipush 59, 2) := by decide +kernel
theorem d_Md_readLoop_231 : decode b_Md_readLoop 231 = .ok (.invokevirtual 229, 3) := by decide +kernel
theorem d_Md_readLoop_234 : decode b_Md_readLoop 234 = .ok (.aload_n 0, 1) := by decide +kernel
theorem d_Md_readLoop_235 : decode b_Md_readLoop 235 = .ok (.getfield 131, 3) := by decide +kernel
theorem d_Md_readLoop_238 : decode b_Md_readLoop 238 = .ok (.ifCond .eq 7, 3) := by decide +kernel
theorem d_Md_readLoop_241 : decode b_Md_readLoop 241 = .ok (.aload_n 0, 1) := by decide +kernel
theorem d_Md_readLoop_242 : decode b_Md_readLoop 242 = .ok (.invokevirtual 164, 3) := by decide +kernel
theorem d_Md_readLoop_245 : decode b_Md_readLoop 245 = .ok (.return_, 1) := by decide +kernel
