abbrev b_Md_longest : ByteArray := prog_13_method_56_code
abbrev y_Md_longest : MethodName := ⟨"LoopInductionModel", "longest", "()I"⟩
abbrev w_Md_longest : List Cond := .code y_Md_longest b_Md_longest 7 (some .int) :: allW
theorem pn_Md_longest : y_Md_longest.cls ≠ "java/lang/invoke/MethodHandle" ∧ y_Md_longest.cls ≠ "java/lang/invoke/VarHandle" ∧ (parseMethodDescriptor y_Md_longest.desc).map (fun d => d.parameters.length) = some 0 := by decide +kernel
theorem pd_Md_longest : y_Md_longest.cls = "LoopInductionModel" ∧ y_Md_longest.cls ≠ "java/lang/invoke/MethodHandle" ∧ y_Md_longest.cls ≠ "java/lang/invoke/VarHandle" ∧ (parseMethodDescriptor y_Md_longest.desc).map (fun d => d.parameters.length) = some 0 := by decide +kernel
theorem d_Md_longest_0 : decode b_Md_longest 0 = .ok (.aload_n 0, 1) := by decide +kernel
theorem d_Md_longest_1 : decode b_Md_longest 1 = .ok (.getfield 30, 3) := by decide +kernel
theorem d_Md_longest_4 : decode b_Md_longest 4 = .ok (.ifCond .lt 11, 3) := by decide +kernel
theorem d_Md_longest_7 : decode b_Md_longest 7 = .ok (.aload_n 0, 1) := by decide +kernel
theorem d_Md_longest_8 : decode b_Md_longest 8 = .ok (.iconst 0, 1) := by decide +kernel
theorem d_Md_longest_9 : decode b_Md_longest 9 = .ok (.invokevirtual 282, 3) := by decide +kernel
theorem d_Md_longest_12 : decode b_Md_longest 12 = .ok (.ifCond .ne 5, 3) := by decide +kernel
theorem d_Md_longest_15 : decode b_Md_longest 15 = .ok (.iconst (-1), 1) := by decide +kernel
theorem d_Md_longest_16 : decode b_Md_longest 16 = .ok (.ireturn, 1) := by decide +kernel
theorem d_Md_longest_17 : decode b_Md_longest 17 = .ok (.iconst 0, 1) := by decide +kernel
theorem d_Md_longest_18 : decode b_Md_longest 18 = .ok (.istore_n 1, 1) := by decide +kernel
theorem d_Md_longest_19 : decode b_Md_longest 19 = .ok (.iload_n 1, 1) := by decide +kernel
theorem d_Md_longest_20 : decode b_Md_longest 20 = .ok (.sipush 4096, 3) := by decide +kernel
theorem d_Md_longest_23 : decode b_Md_longest 23 = .ok (.if_icmp .ge 16, 3) := by decide +kernel
theorem d_Md_longest_26 : decode b_Md_longest 26 = .ok (.aload_n 0, 1) := by decide +kernel
theorem d_Md_longest_27 : decode b_Md_longest 27 = .ok (.getfield 91, 3) := by decide +kernel
theorem d_Md_longest_30 : decode b_Md_longest 30 = .ok (.iload_n 1, 1) := by decide +kernel
theorem d_Md_longest_31 : decode b_Md_longest 31 = .ok (.iconst (-1), 1) := by decide +kernel
theorem d_Md_longest_32 : decode b_Md_longest 32 = .ok (.iastore, 1) := by decide +kernel
theorem d_Md_longest_33 : decode b_Md_longest 33 = .ok (.iinc 1 1, 3) := by decide +kernel
theorem d_Md_longest_36 : decode b_Md_longest 36 = .ok (.goto (-17), 3) := by decide +kernel
theorem d_Md_longest_39 : decode b_Md_longest 39 = .ok (.iconst 1, 1) := by decide +kernel
theorem d_Md_longest_40 : decode b_Md_longest 40 = .ok (.istore_n 1, 1) := by decide +kernel
theorem d_Md_longest_41 : decode b_Md_longest 41 = .ok (.iload_n 1, 1) := by decide +kernel
theorem d_Md_longest_42 : decode b_Md_longest 42 = .ok (.ifCond .eq 158, 3) := by decide +kernel
theorem d_Md_longest_45 : decode b_Md_longest 45 = .ok (.iconst 0, 1) := by decide +kernel
theorem d_Md_longest_46 : decode b_Md_longest 46 = .ok (.istore_n 1, 1) := by decide +kernel
theorem d_Md_longest_47 : decode b_Md_longest 47 = .ok (.iconst 0, 1) := by decide +kernel
theorem d_Md_longest_48 : decode b_Md_longest 48 = .ok (.istore_n 2, 1) := by decide +kernel
theorem d_Md_longest_49 : decode b_Md_longest 49 = .ok (.iload_n 2, 1) := by decide +kernel
theorem d_Md_longest_50 : decode b_Md_longest 50 = .ok (.sipush 4096, 3) := by decide +kernel
theorem d_Md_longest_53 : decode b_Md_longest 53 = .ok (.if_icmp .ge 144, 3) := by decide +kernel
theorem d_Md_longest_56 : decode b_Md_longest 56 = .ok (.iload_n 2, 1) := by decide +kernel
theorem d_Md_longest_57 : decode b_Md_longest 57 = .ok (.istore_n 3, 1) := by decide +kernel
theorem d_Md_longest_58 : decode b_Md_longest 58 = .ok (.aload_n 0, 1) := by decide +kernel
theorem d_Md_longest_59 : decode b_Md_longest 59 = .ok (.getfield 73, 3) := by decide +kernel
theorem d_Md_longest_62 : decode b_Md_longest 62 = .ok (.iload_n 3, 1) := by decide +kernel
theorem d_Md_longest_63 : decode b_Md_longest 63 = .ok (.iaload, 1) := by decide +kernel
theorem d_Md_longest_64 : decode b_Md_longest 64 = .ok (.ifCond .lt 127, 3) := by decide +kernel
theorem d_Md_longest_67 : decode b_Md_longest 67 = .ok (.aload_n 0, 1) := by decide +kernel
theorem d_Md_longest_68 : decode b_Md_longest 68 = .ok (.getfield 91, 3) := by decide +kernel
theorem d_Md_longest_71 : decode b_Md_longest 71 = .ok (.iload_n 3, 1) := by decide +kernel
theorem d_Md_longest_72 : decode b_Md_longest 72 = .ok (.iaload, 1) := by decide +kernel
theorem d_Md_longest_73 : decode b_Md_longest 73 = .ok (.ifCond .ge 118, 3) := by decide +kernel
theorem d_Md_longest_76 : decode b_Md_longest 76 = .ok (.iconst 0, 1) := by decide +kernel
theorem d_Md_longest_77 : decode b_Md_longest 77 = .ok (.istore 4, 2) := by decide +kernel
theorem d_Md_longest_79 : decode b_Md_longest 79 = .ok (.iconst 0, 1) := by decide +kernel
theorem d_Md_longest_80 : decode b_Md_longest 80 = .ok (.istore 5, 2) := by decide +kernel
theorem d_Md_longest_82 : decode b_Md_longest 82 = .ok (.iload 5, 2) := by decide +kernel
theorem d_Md_longest_84 : decode b_Md_longest 84 = .ok (.bipush 6, 2) := by decide +kernel
theorem d_Md_longest_86 : decode b_Md_longest 86 = .ok (.if_icmp .ge 82, 3) := by decide +kernel
theorem d_Md_longest_89 : decode b_Md_longest 89 = .ok (.iload 4, 2) := by decide +kernel
theorem d_Md_longest_91 : decode b_Md_longest 91 = .ok (.ifCond .lt 77, 3) := by decide +kernel
theorem d_Md_longest_94 : decode b_Md_longest 94 = .ok (.aload_n 0, 1) := by decide +kernel
theorem d_Md_longest_95 : decode b_Md_longest 95 = .ok (.getfield 63, 3) := by decide +kernel
theorem d_Md_longest_98 : decode b_Md_longest 98 = .ok (.bipush 6, 2) := by decide +kernel
theorem d_Md_longest_100 : decode b_Md_longest 100 = .ok (.iload_n 3, 1) := by decide +kernel
theorem d_Md_longest_101 : decode b_Md_longest 101 = .ok (.imul, 1) := by decide +kernel
theorem d_Md_longest_102 : decode b_Md_longest 102 = .ok (.iload 5, 2) := by decide +kernel
theorem d_Md_longest_104 : decode b_Md_longest 104 = .ok (.iadd, 1) := by decide +kernel
theorem d_Md_longest_105 : decode b_Md_longest 105 = .ok (.iaload, 1) := by decide +kernel
theorem d_Md_longest_106 : decode b_Md_longest 106 = .ok (.istore 6, 2) := by decide +kernel
theorem d_Md_longest_108 : decode b_Md_longest 108 = .ok (.iload 6, 2) := by decide +kernel
theorem d_Md_longest_110 : decode b_Md_longest 110 = .ok (.ifCond .ge 8, 3) := by decide +kernel
theorem d_Md_longest_113 : decode b_Md_longest 113 = .ok (.iload 4, 2) := by decide +kernel
theorem d_Md_longest_115 : decode b_Md_longest 115 = .ok (.goto 45, 3) := by decide +kernel
theorem d_Md_longest_118 : decode b_Md_longest 118 = .ok (.aload_n 0, 1) := by decide +kernel
theorem d_Md_longest_119 : decode b_Md_longest 119 = .ok (.getfield 91, 3) := by decide +kernel
theorem d_Md_longest_122 : decode b_Md_longest 122 = .ok (.iload 6, 2) := by decide +kernel
theorem d_Md_longest_124 : decode b_Md_longest 124 = .ok (.iaload, 1) := by decide +kernel
theorem d_Md_longest_125 : decode b_Md_longest 125 = .ok (.ifCond .ge 7, 3) := by decide +kernel
theorem d_Md_longest_128 : decode b_Md_longest 128 = .ok (.iconst (-1), 1) := by decide +kernel
theorem d_Md_longest_129 : decode b_Md_longest 129 = .ok (.goto 31, 3) := by decide +kernel
theorem d_Md_longest_132 : decode b_Md_longest 132 = .ok (.aload_n 0, 1) := by decide +kernel
theorem d_Md_longest_133 : decode b_Md_longest 133 = .ok (.getfield 91, 3) := by decide +kernel
theorem d_Md_longest_136 : decode b_Md_longest 136 = .ok (.iload 6, 2) := by decide +kernel
theorem d_Md_longest_138 : decode b_Md_longest 138 = .ok (.iaload, 1) := by decide +kernel
theorem d_Md_longest_139 : decode b_Md_longest 139 = .ok (.iconst 1, 1) := by decide +kernel
theorem d_Md_longest_140 : decode b_Md_longest 140 = .ok (.iadd, 1) := by decide +kernel
theorem d_Md_longest_141 : decode b_Md_longest 141 = .ok (.iload 4, 2) := by decide +kernel
theorem d_Md_longest_143 : decode b_Md_longest 143 = .ok (.if_icmp .le 15, 3) := by decide +kernel
theorem d_Md_longest_146 : decode b_Md_longest 146 = .ok (.aload_n 0, 1) := by decide +kernel
theorem d_Md_longest_147 : decode b_Md_longest 147 = .ok (.getfield 91, 3) := by decide +kernel
theorem d_Md_longest_150 : decode b_Md_longest 150 = .ok (.iload 6, 2) := by decide +kernel
theorem d_Md_longest_152 : decode b_Md_longest 152 = .ok (.iaload, 1) := by decide +kernel
theorem d_Md_longest_153 : decode b_Md_longest 153 = .ok (.iconst 1, 1) := by decide +kernel
theorem d_Md_longest_154 : decode b_Md_longest 154 = .ok (.iadd, 1) := by decide +kernel
theorem d_Md_longest_155 : decode b_Md_longest 155 = .ok (.goto 5, 3) := by decide +kernel
theorem d_Md_longest_158 : decode b_Md_longest 158 = .ok (.iload 4, 2) := by decide +kernel
theorem d_Md_longest_160 : decode b_Md_longest 160 = .ok (.istore 4, 2) := by decide +kernel
theorem d_Md_longest_162 : decode b_Md_longest 162 = .ok (.iinc 5 1, 3) := by decide +kernel
theorem d_Md_longest_165 : decode b_Md_longest 165 = .ok (.goto (-83), 3) := by decide +kernel
theorem d_Md_longest_168 : decode b_Md_longest 168 = .ok (.aload_n 0, 1) := by decide +kernel
theorem d_Md_longest_169 : decode b_Md_longest 169 = .ok (.getfield 91, 3) := by decide +kernel
theorem d_Md_longest_172 : decode b_Md_longest 172 = .ok (.iload_n 3, 1) := by decide +kernel
theorem d_Md_longest_173 : decode b_Md_longest 173 = .ok (.iload 4, 2) := by decide +kernel
theorem d_Md_longest_175 : decode b_Md_longest 175 = .ok (.iastore, 1) := by decide +kernel
theorem d_Md_longest_176 : decode b_Md_longest 176 = .ok (.iload_n 1, 1) := by decide +kernel
theorem d_Md_longest_177 : decode b_Md_longest 177 = .ok (.ifCond .ne 8, 3) := by decide +kernel
theorem d_Md_longest_180 : decode b_Md_longest 180 = .ok (.iload 4, 2) := by decide +kernel
theorem d_Md_longest_182 : decode b_Md_longest 182 = .ok (.ifCond .lt 7, 3) := by decide +kernel
theorem d_Md_longest_185 : decode b_Md_longest 185 = .ok (.iconst 1, 1) := by decide +kernel
theorem d_Md_longest_186 : decode b_Md_longest 186 = .ok (.goto 4, 3) := by decide +kernel
theorem d_Md_longest_189 : decode b_Md_longest 189 = .ok (.iconst 0, 1) := by decide +kernel
theorem d_Md_longest_190 : decode b_Md_longest 190 = .ok (.istore_n 1, 1) := by decide +kernel
theorem d_Md_longest_191 : decode b_Md_longest 191 = .ok (.iinc 2 1, 3) := by decide +kernel
theorem d_Md_longest_194 : decode b_Md_longest 194 = .ok (.goto (-145), 3) := by decide +kernel
theorem d_Md_longest_197 : decode b_Md_longest 197 = .ok (.goto (-156), 3) := by decide +kernel
theorem d_Md_longest_200 : decode b_Md_longest 200 = .ok (.iconst 0, 1) := by decide +kernel
theorem d_Md_longest_201 : decode b_Md_longest 201 = .ok (.istore_n 2, 1) := by decide +kernel
theorem d_Md_longest_202 : decode b_Md_longest 202 = .ok (.iconst 0, 1) := by decide +kernel
theorem d_Md_longest_203 : decode b_Md_longest 203 = .ok (.istore_n 3, 1) := by decide +kernel
theorem d_Md_longest_204 : decode b_Md_longest 204 = .ok (.iload_n 3, 1) := by decide +kernel
theorem d_Md_longest_205 : decode b_Md_longest 205 = .ok (.sipush 4096, 3) := by decide +kernel
theorem d_Md_longest_208 : decode b_Md_longest 208 = .ok (.if_icmp .ge 61, 3) := by decide +kernel
theorem d_Md_longest_211 : decode b_Md_longest 211 = .ok (.aload_n 0, 1) := by decide +kernel
theorem d_Md_longest_212 : decode b_Md_longest 212 = .ok (.getfield 73, 3) := by decide +kernel
theorem d_Md_longest_215 : decode b_Md_longest 215 = .ok (.iload_n 3, 1) := by decide +kernel
theorem d_Md_longest_216 : decode b_Md_longest 216 = .ok (.iaload, 1) := by decide +kernel
theorem d_Md_longest_217 : decode b_Md_longest 217 = .ok (.ifCond .lt 16, 3) := by decide +kernel
theorem d_Md_longest_220 : decode b_Md_longest 220 = .ok (.aload_n 0, 1) := by decide +kernel
theorem d_Md_longest_221 : decode b_Md_longest 221 = .ok (.getfield 91, 3) := by decide +kernel
theorem d_Md_longest_224 : decode b_Md_longest 224 = .ok (.iload_n 3, 1) := by decide +kernel
theorem d_Md_longest_225 : decode b_Md_longest 225 = .ok (.iaload, 1) := by decide +kernel
theorem d_Md_longest_226 : decode b_Md_longest 226 = .ok (.ifCond .ge 7, 3) := by decide +kernel
theorem d_Md_longest_229 : decode b_Md_longest 229 = .ok (.sipush 5000, 3) := by decide +kernel
theorem d_Md_longest_232 : decode b_Md_longest 232 = .ok (.ireturn, 1) := by decide +kernel
theorem d_Md_longest_233 : decode b_Md_longest 233 = .ok (.aload_n 0, 1) := by decide +kernel
theorem d_Md_longest_234 : decode b_Md_longest 234 = .ok (.getfield 66, 3) := by decide +kernel
theorem d_Md_longest_237 : decode b_Md_longest 237 = .ok (.iload_n 3, 1) := by decide +kernel
theorem d_Md_longest_238 : decode b_Md_longest 238 = .ok (.baload, 1) := by decide +kernel
theorem d_Md_longest_239 : decode b_Md_longest 239 = .ok (.ifCond .eq 22, 3) := by decide +kernel
theorem d_Md_longest_242 : decode b_Md_longest 242 = .ok (.aload_n 0, 1) := by decide +kernel
theorem d_Md_longest_243 : decode b_Md_longest 243 = .ok (.getfield 91, 3) := by decide +kernel
theorem d_Md_longest_246 : decode b_Md_longest 246 = .ok (.iload_n 3, 1) := by decide +kernel
theorem d_Md_longest_247 : decode b_Md_longest 247 = .ok (.iaload, 1) := by decide +kernel
theorem d_Md_longest_248 : decode b_Md_longest 248 = .ok (.iload_n 2, 1) := by decide +kernel
theorem d_Md_longest_249 : decode b_Md_longest 249 = .ok (.if_icmp .le 12, 3) := by decide +kernel
theorem d_Md_longest_252 : decode b_Md_longest 252 = .ok (.aload_n 0, 1) := by decide +kernel
theorem d_Md_longest_253 : decode b_Md_longest 253 = .ok (.getfield 91, 3) := by decide +kernel
theorem d_Md_longest_256 : decode b_Md_longest 256 = .ok (.iload_n 3, 1) := by decide +kernel
theorem d_Md_longest_257 : decode b_Md_longest 257 = .ok (.iaload, 1) := by decide +kernel
theorem d_Md_longest_258 : decode b_Md_longest 258 = .ok (.goto 4, 3) := by decide +kernel
theorem d_Md_longest_261 : decode b_Md_longest 261 = .ok (.iload_n 2, 1) := by decide +kernel
theorem d_Md_longest_262 : decode b_Md_longest 262 = .ok (.istore_n 2, 1) := by decide +kernel
theorem d_Md_longest_263 : decode b_Md_longest 263 = .ok (.iinc 3 1, 3) := by decide +kernel
theorem d_Md_longest_266 : decode b_Md_longest 266 = .ok (.goto (-62), 3) := by decide +kernel
theorem d_Md_longest_269 : decode b_Md_longest 269 = .ok (.iload_n 2, 1) := by decide +kernel
theorem d_Md_longest_270 : decode b_Md_longest 270 = .ok (.ireturn, 1) := by decide +kernel
def wp_Md_longest_L19 (k39 : (Nat → Int32) → Prop) : Nat → Int32 → (Nat → Int32) → Prop
  | 0, _, _ => False
  | n + 1, x1, md_heights =>
    (((4096 : Int32) ≤ (x1 : Int32) → k39 md_heights) ∧ (¬ (4096 : Int32) ≤ (x1 : Int32) → (vp_in x1 4096 ∧ wp_Md_longest_L19 k39 n (x1 + 1) (upd md_heights (x1 : Int32).toNatClampNeg (-1)))))
def wp_Md_longest_L82 (x1 : Int32) (x2 : Int32) (x3 : Int32) (md_nexts : Nat → Int32) (md_heights : Nat → Int32) (k168 : Int32 → Prop) : Nat → Int32 → Int32 → Prop
  | 0, _, _ => False
  | n + 1, x4, x5 =>
    (((6 : Int32) ≤ (x5 : Int32) → k168 x4) ∧ (¬ (6 : Int32) ≤ (x5 : Int32) → (((x4 : Int32) < 0 → k168 x4) ∧ (¬ (x4 : Int32) < 0 → (vp_in ((6 * x3) + x5) 24576 ∧ (∀ x6_1 : Int32, x6_1 = (md_nexts ((6 * x3) + x5 : Int32).toNatClampNeg) → ((0 ≤ (x6_1 : Int32) → (vp_in x6_1 4096 ∧ ((0 ≤ (md_heights (x6_1 : Int32).toNatClampNeg : Int32) → (vp_in x6_1 4096 ∧ ((((md_heights (x6_1 : Int32).toNatClampNeg) + 1 : Int32) ≤ (x4 : Int32) → wp_Md_longest_L82 x1 x2 x3 md_nexts md_heights k168 n x4 (x5 + 1)) ∧ (¬ ((md_heights (x6_1 : Int32).toNatClampNeg) + 1 : Int32) ≤ (x4 : Int32) → (vp_in x6_1 4096 ∧ (∀ x4_2 : Int32, x4_2 = ((md_heights (x6_1 : Int32).toNatClampNeg) + 1) → wp_Md_longest_L82 x1 x2 x3 md_nexts md_heights k168 n x4_2 (x5 + 1))))))) ∧ (¬ 0 ≤ (md_heights (x6_1 : Int32).toNatClampNeg : Int32) → wp_Md_longest_L82 x1 x2 x3 md_nexts md_heights k168 n (-1) (x5 + 1))))) ∧ (¬ 0 ≤ (x6_1 : Int32) → wp_Md_longest_L82 x1 x2 x3 md_nexts md_heights k168 n x4 (x5 + 1)))))))))
def wp_Md_longest_L49 (md_nexts : Nat → Int32) (md_levels : Nat → Int32) (k197 : Int32 → (Nat → Int32) → Prop) : Nat → Int32 → Int32 → (Nat → Int32) → Prop
  | 0, _, _, _ => False
  | n + 1, x1, x2, md_heights =>
    (((4096 : Int32) ≤ (x2 : Int32) → k197 x1 md_heights) ∧ (¬ (4096 : Int32) ≤ (x2 : Int32) → (vp_in x2 4096 ∧ (((md_levels (x2 : Int32).toNatClampNeg : Int32) < 0 → wp_Md_longest_L49 md_nexts md_levels k197 n x1 (x2 + 1) md_heights) ∧ (¬ (md_levels (x2 : Int32).toNatClampNeg : Int32) < 0 → (vp_in x2 4096 ∧ ((0 ≤ (md_heights (x2 : Int32).toNatClampNeg : Int32) → wp_Md_longest_L49 md_nexts md_levels k197 n x1 (x2 + 1) md_heights) ∧ (¬ 0 ≤ (md_heights (x2 : Int32).toNatClampNeg : Int32) → ∃ n_4, wp_Md_longest_L82 x1 x2 x2 md_nexts md_heights (fun x4_3 => (vp_in x2 4096 ∧ ((¬ (x1 : Int32) = 0 → wp_Md_longest_L49 md_nexts md_levels k197 n 1 (x2 + 1) (upd md_heights (x2 : Int32).toNatClampNeg x4_3)) ∧ ((x1 : Int32) = 0 → (((x4_3 : Int32) < 0 → wp_Md_longest_L49 md_nexts md_levels k197 n 0 (x2 + 1) (upd md_heights (x2 : Int32).toNatClampNeg x4_3)) ∧ (¬ (x4_3 : Int32) < 0 → wp_Md_longest_L49 md_nexts md_levels k197 n 1 (x2 + 1) (upd md_heights (x2 : Int32).toNatClampNeg x4_3))))))) n_4 0 0))))))))
def wp_Md_longest_L41 (md_nexts : Nat → Int32) (md_levels : Nat → Int32) (k200 : (Nat → Int32) → Prop) : Nat → Int32 → (Nat → Int32) → Prop
  | 0, _, _ => False
  | n + 1, x1, md_heights =>
    (((x1 : Int32) = 0 → k200 md_heights) ∧ (¬ (x1 : Int32) = 0 → ∃ n_7, wp_Md_longest_L49 md_nexts md_levels (fun x1_5 md_heights_6 => wp_Md_longest_L41 md_nexts md_levels k200 n x1_5 md_heights_6) n_7 0 0 md_heights))
def wp_Md_longest_L204 (md_isBegin : Nat → Int32) (md_levels : Nat → Int32) (md_heights : Nat → Int32) (k269 : Int32 → Prop) (k229 : Prop) : Nat → Int32 → Int32 → Prop
  | 0, _, _ => False
  | n + 1, x2, x3 =>
    (((4096 : Int32) ≤ (x3 : Int32) → k269 x2) ∧ (¬ (4096 : Int32) ≤ (x3 : Int32) → (vp_in x3 4096 ∧ (((md_levels (x3 : Int32).toNatClampNeg : Int32) < 0 → (vp_in x3 4096 ∧ (((md_isBegin (x3 : Int32).toNatClampNeg : Int32) = 0 → wp_Md_longest_L204 md_isBegin md_levels md_heights k269 k229 n x2 (x3 + 1)) ∧ (¬ (md_isBegin (x3 : Int32).toNatClampNeg : Int32) = 0 → (vp_in x3 4096 ∧ (((md_heights (x3 : Int32).toNatClampNeg : Int32) ≤ (x2 : Int32) → wp_Md_longest_L204 md_isBegin md_levels md_heights k269 k229 n x2 (x3 + 1)) ∧ (¬ (md_heights (x3 : Int32).toNatClampNeg : Int32) ≤ (x2 : Int32) → (vp_in x3 4096 ∧ (∀ x2_1 : Int32, x2_1 = (md_heights (x3 : Int32).toNatClampNeg) → wp_Md_longest_L204 md_isBegin md_levels md_heights k269 k229 n x2_1 (x3 + 1)))))))))) ∧ (¬ (md_levels (x3 : Int32).toNatClampNeg : Int32) < 0 → (vp_in x3 4096 ∧ ((0 ≤ (md_heights (x3 : Int32).toNatClampNeg : Int32) → (vp_in x3 4096 ∧ (((md_isBegin (x3 : Int32).toNatClampNeg : Int32) = 0 → wp_Md_longest_L204 md_isBegin md_levels md_heights k269 k229 n x2 (x3 + 1)) ∧ (¬ (md_isBegin (x3 : Int32).toNatClampNeg : Int32) = 0 → (vp_in x3 4096 ∧ (((md_heights (x3 : Int32).toNatClampNeg : Int32) ≤ (x2 : Int32) → wp_Md_longest_L204 md_isBegin md_levels md_heights k269 k229 n x2 (x3 + 1)) ∧ (¬ (md_heights (x3 : Int32).toNatClampNeg : Int32) ≤ (x2 : Int32) → (vp_in x3 4096 ∧ (∀ x2_2 : Int32, x2_2 = (md_heights (x3 : Int32).toNatClampNeg) → wp_Md_longest_L204 md_isBegin md_levels md_heights k269 k229 n x2_2 (x3 + 1)))))))))) ∧ (¬ 0 ≤ (md_heights (x3 : Int32).toNatClampNeg : Int32) → k229))))))))
def wp_Md_longest (md_loop : Int32) (md_keptBits : Int32) (md_nexts : Nat → Int32) (md_isBegin : Nat → Int32) (md_isGoal : Nat → Int32) (md_levels : Nat → Int32) (md_hasGuesses : Nat → Int32) (md_heights : Nat → Int32) (post : Int32 → (Nat → Int32) → Prop) : Prop :=
  (((md_loop : Int32) < 0 → post (-1) md_heights) ∧ (¬ (md_loop : Int32) < 0 → wp_Md_many 0 md_loop md_keptBits md_nexts md_isBegin md_isGoal md_levels md_hasGuesses (fun r_1 => ((¬ (r_1 : Int32) = 0 → ∃ n_12, wp_Md_longest_L19 (fun md_heights_2 => ∃ n_11, wp_Md_longest_L41 md_nexts md_levels (fun md_heights_8 => ∃ n_10, wp_Md_longest_L204 md_isBegin md_levels md_heights_8 (fun x2_9 => post x2_9 md_heights_8) (post 5000 md_heights_8) n_10 0 0) n_11 1 md_heights_2) n_12 0 md_heights) ∧ ((r_1 : Int32) = 0 → post (-1) md_heights)))))
set_option maxHeartbeats 4000000 in
set_option maxRecDepth 100000 in
theorem c_Md_longest (l : Launch) (dC : Nat → ClassId) (dI : Nat → Nat → Nat) (cI cB cZ : ClassId) (adK adV : Nat → Nat) (sz : Nat) (a_md a_md_tape a_md_acts a_md_actNumbers a_md_actCounts a_md_pile a_md_begins a_md_goals a_md_ranks a_md_choiceCounts a_md_whens a_md_becomes a_md_guessCounts a_md_guesses a_md_unaryCounts a_md_stack a_md_nexts a_md_isBegin a_md_isGoal a_md_levels a_md_queue a_md_hasGuesses a_md_rounds a_md_marked a_md_other a_md_heights : Nat) (md_size : Int32) (md_at : Int32) (md_token : Int32) (md_tokenPlace : Int32) (md_number : Int32) (md_sign : Int32) (md_bad : Int32) (md_faultPlace : Int32) (md_place : Int32) (md_bank : Int32) (md_unaries : Int32) (md_opens : Int32) (md_piled : Int32) (md_loop : Int32) (md_keptBits : Int32) (md_nexts : Nat → Int32) (md_isBegin : Nat → Int32) (md_isGoal : Nat → Int32) (md_levels : Nat → Int32) (md_hasGuesses : Nat → Int32) (md_heights : Nat → Int32) (post : Int32 → (Nat → Int32) → Prop) (h : wp_Md_longest md_loop md_keptBits md_nexts md_isBegin md_isGoal md_levels md_hasGuesses md_heights post) : Met l y_Md_longest w_Md_longest ({ frames := 2, cells := 0, slots := 0, locals := 51 }) (pc_ (dC, dI) [(cI, .int), (cB, .byte), (cZ, .boolean)] [(a_md, .inr (11, [.ref a_md_tape, .int md_size, .int md_at, .int md_token, .int md_tokenPlace, .int md_number, .int md_sign, .int md_bad, .int md_faultPlace, .int md_place, .ref a_md_acts, .ref a_md_actNumbers, .ref a_md_actCounts, .int md_bank, .int md_unaries, .int md_opens, .ref a_md_pile, .int md_piled, .int md_loop, .ref a_md_begins, .ref a_md_goals, .ref a_md_ranks, .ref a_md_choiceCounts, .ref a_md_whens, .ref a_md_becomes, .ref a_md_guessCounts, .ref a_md_guesses, .ref a_md_unaryCounts, .ref a_md_stack, .ref a_md_nexts, .ref a_md_isBegin, .ref a_md_isGoal, .ref a_md_levels, .ref a_md_queue, .ref a_md_hasGuesses, .int md_keptBits, .ref a_md_rounds, .ref a_md_marked, .ref a_md_other, .ref a_md_heights])), (a_md_nexts, .inl (cI, 24576, .inl md_nexts)), (a_md_isBegin, .inl (cZ, 4096, .inl md_isBegin)), (a_md_isGoal, .inl (cZ, 4096, .inl md_isGoal)), (a_md_levels, .inl (cI, 4096, .inl md_levels)), (a_md_hasGuesses, .inl (cI, 4096, .inl md_hasGuesses)), (a_md_heights, .inl (cI, 4096, .inl md_heights))] sz adK adV [.ref a_md]) (va_Qi (fun (r : Int32) (u : (Nat → Int32)) => post r u) (fun (u : (Nat → Int32)) t => bw_ (dC, dI) [(cI, .int), (cB, .byte), (cZ, .boolean)] (va_A [(a_md, .inr (11, [.ref a_md_tape, .int md_size, .int md_at, .int md_token, .int md_tokenPlace, .int md_number, .int md_sign, .int md_bad, .int md_faultPlace, .int md_place, .ref a_md_acts, .ref a_md_actNumbers, .ref a_md_actCounts, .int md_bank, .int md_unaries, .int md_opens, .ref a_md_pile, .int md_piled, .int md_loop, .ref a_md_begins, .ref a_md_goals, .ref a_md_ranks, .ref a_md_choiceCounts, .ref a_md_whens, .ref a_md_becomes, .ref a_md_guessCounts, .ref a_md_guesses, .ref a_md_unaryCounts, .ref a_md_stack, .ref a_md_nexts, .ref a_md_isBegin, .ref a_md_isGoal, .ref a_md_levels, .ref a_md_queue, .ref a_md_hasGuesses, .int md_keptBits, .ref a_md_rounds, .ref a_md_marked, .ref a_md_other, .ref a_md_heights])), (a_md_nexts, .inl (cI, 24576, .inl md_nexts)), (a_md_isBegin, .inl (cZ, 4096, .inl md_isBegin)), (a_md_isGoal, .inl (cZ, 4096, .inl md_isGoal)), (a_md_levels, .inl (cI, 4096, .inl md_levels)), (a_md_hasGuesses, .inl (cI, 4096, .inl md_hasGuesses)), (a_md_heights, .inl (cI, 4096, .inl md_heights))] sz) [(a_md, .inr (11, [.ref a_md_tape, .int md_size, .int md_at, .int md_token, .int md_tokenPlace, .int md_number, .int md_sign, .int md_bad, .int md_faultPlace, .int md_place, .ref a_md_acts, .ref a_md_actNumbers, .ref a_md_actCounts, .int md_bank, .int md_unaries, .int md_opens, .ref a_md_pile, .int md_piled, .int md_loop, .ref a_md_begins, .ref a_md_goals, .ref a_md_ranks, .ref a_md_choiceCounts, .ref a_md_whens, .ref a_md_becomes, .ref a_md_guessCounts, .ref a_md_guesses, .ref a_md_unaryCounts, .ref a_md_stack, .ref a_md_nexts, .ref a_md_isBegin, .ref a_md_isGoal, .ref a_md_levels, .ref a_md_queue, .ref a_md_hasGuesses, .int md_keptBits, .ref a_md_rounds, .ref a_md_marked, .ref a_md_other, .ref a_md_heights])), (a_md_nexts, .inl (cI, 24576, .inl md_nexts)), (a_md_isBegin, .inl (cZ, 4096, .inl md_isBegin)), (a_md_isGoal, .inl (cZ, 4096, .inl md_isGoal)), (a_md_levels, .inl (cI, 4096, .inl md_levels)), (a_md_hasGuesses, .inl (cI, 4096, .inl md_hasGuesses)), (a_md_heights, .inl (cI, 4096, .inl u))] t) (va_A [(a_md, .inr (11, [.ref a_md_tape, .int md_size, .int md_at, .int md_token, .int md_tokenPlace, .int md_number, .int md_sign, .int md_bad, .int md_faultPlace, .int md_place, .ref a_md_acts, .ref a_md_actNumbers, .ref a_md_actCounts, .int md_bank, .int md_unaries, .int md_opens, .ref a_md_pile, .int md_piled, .int md_loop, .ref a_md_begins, .ref a_md_goals, .ref a_md_ranks, .ref a_md_choiceCounts, .ref a_md_whens, .ref a_md_becomes, .ref a_md_guessCounts, .ref a_md_guesses, .ref a_md_unaryCounts, .ref a_md_stack, .ref a_md_nexts, .ref a_md_isBegin, .ref a_md_isGoal, .ref a_md_levels, .ref a_md_queue, .ref a_md_hasGuesses, .int md_keptBits, .ref a_md_rounds, .ref a_md_marked, .ref a_md_other, .ref a_md_heights])), (a_md_nexts, .inl (cI, 24576, .inl md_nexts)), (a_md_isBegin, .inl (cZ, 4096, .inl md_isBegin)), (a_md_isGoal, .inl (cZ, 4096, .inl md_isGoal)), (a_md_levels, .inl (cI, 4096, .inl md_levels)), (a_md_hasGuesses, .inl (cI, 4096, .inl md_hasGuesses)), (a_md_heights, .inl (cI, 4096, .inl md_heights))] sz)) 0 0 (va_A [(a_md, .inr (11, [.ref a_md_tape, .int md_size, .int md_at, .int md_token, .int md_tokenPlace, .int md_number, .int md_sign, .int md_bad, .int md_faultPlace, .int md_place, .ref a_md_acts, .ref a_md_actNumbers, .ref a_md_actCounts, .int md_bank, .int md_unaries, .int md_opens, .ref a_md_pile, .int md_piled, .int md_loop, .ref a_md_begins, .ref a_md_goals, .ref a_md_ranks, .ref a_md_choiceCounts, .ref a_md_whens, .ref a_md_becomes, .ref a_md_guessCounts, .ref a_md_guesses, .ref a_md_unaryCounts, .ref a_md_stack, .ref a_md_nexts, .ref a_md_isBegin, .ref a_md_isGoal, .ref a_md_levels, .ref a_md_queue, .ref a_md_hasGuesses, .int md_keptBits, .ref a_md_rounds, .ref a_md_marked, .ref a_md_other, .ref a_md_heights])), (a_md_nexts, .inl (cI, 24576, .inl md_nexts)), (a_md_isBegin, .inl (cZ, 4096, .inl md_isBegin)), (a_md_isGoal, .inl (cZ, 4096, .inl md_isGoal)), (a_md_levels, .inl (cI, 4096, .inl md_levels)), (a_md_hasGuesses, .inl (cI, 4096, .inl md_hasGuesses)), (a_md_heights, .inl (cI, 4096, .inl md_heights))] sz) := by
  refine Met.ofW (cc := b_Md_longest) (maxL := 7) (ret := (some .int)) (by decide) rfl ?_
  intro p e s m args below meth c s₁ B hml hv
  obtain ⟨rfl, hsz, hP, hK, hD0, hN, hT⟩ := hv
  have hx := B.exec
  have hb := B.bytes
  have hr := B.returns
  have hts := atoms_spec (ws := w_Md_longest) B.pre
  have hown : s.vm.findClass "LoopInductionModel" = some m.cls := findClass_of_methodNamed B.named
  have hlocks := B.notSynchronized
  subst hsz
  have hD := hD0.self (sz := s.heap.size)
  generalize hAe : va_A [(a_md, .inr (11, [.ref a_md_tape, .int md_size, .int md_at, .int md_token, .int md_tokenPlace, .int md_number, .int md_sign, .int md_bad, .int md_faultPlace, .int md_place, .ref a_md_acts, .ref a_md_actNumbers, .ref a_md_actCounts, .int md_bank, .int md_unaries, .int md_opens, .ref a_md_pile, .int md_piled, .int md_loop, .ref a_md_begins, .ref a_md_goals, .ref a_md_ranks, .ref a_md_choiceCounts, .ref a_md_whens, .ref a_md_becomes, .ref a_md_guessCounts, .ref a_md_guesses, .ref a_md_unaryCounts, .ref a_md_stack, .ref a_md_nexts, .ref a_md_isBegin, .ref a_md_isGoal, .ref a_md_levels, .ref a_md_queue, .ref a_md_hasGuesses, .int md_keptBits, .ref a_md_rounds, .ref a_md_marked, .ref a_md_other, .ref a_md_heights])), (a_md_nexts, .inl (cI, 24576, .inl md_nexts)), (a_md_isBegin, .inl (cZ, 4096, .inl md_isBegin)), (a_md_isGoal, .inl (cZ, 4096, .inl md_isGoal)), (a_md_levels, .inl (cI, 4096, .inl md_levels)), (a_md_hasGuesses, .inl (cI, 4096, .inl md_hasGuesses)), (a_md_heights, .inl (cI, 4096, .inl md_heights))] s.heap.size = A at hD hT ⊢
  have hA : ∀ q : Nat, s.heap.size ≤ q → A q := fun q h => by rw [← hAe]; exact Or.inr h
  have hS : va_S A s.heap s.heap [] := va_S.rf
  generalize hQ : MQ below _ _ s 0 0 _ = QQ
  have hl := lv_entry ([.ref a_md]) (n := 7) (Nat.le_of_ble_eq_true rfl)
  rw [lg_entry_eq]
  generalize (lg_sl ([.ref a_md]) ++ List.replicate (7 - (lg_sl ([.ref a_md])).length) Slot.unset).toArray = ls at hl ⊢
  have hl : lv_has ls 7 [(0, .ref a_md)] := hl
  have fl_30 := (hts _ (List.mem_cons_of_mem _ m_1108))
  have fl_63 := (hts _ (List.mem_cons_of_mem _ m_1119))
  have fl_66 := (hts _ (List.mem_cons_of_mem _ m_1120))
  have fl_73 := (hts _ (List.mem_cons_of_mem _ m_1122))
  have fl_91 := (hts _ (List.mem_cons_of_mem _ m_1129))
  refine lv_aload_n hx hb d_Md_longest_0 rfl (lv_at hl 0 rfl) ?_
  refine va_get (D := (dC, dI)) (ci := 11) (v := .int md_loop) (C := "LoopInductionModel") (T := F_Md) (N := 40) hx hb hts iC_Md hown hK hP 0 rfl rfl 18 (by decide) fl_30 (fun _ h9 => h9) rfl d_Md_longest_1 ?_
  refine lv_if_lt (tgt := 15) hx hb d_Md_longest_4 (by decide) (fun c_4 => ?_) (fun c_4 => ?_)
  · have h := And.left h c_4
    refine lv_iconst (v := (-1)) hx hb d_Md_longest_15 (by decide) ?_
    rw [← hQ]
    have hP9 := hP
    have hD9 := hD
    exact W.iret (v := (-1)) hx hb hr (fun t ht hW => ⟨⟨(-1), (md_heights), rfl, h, by rw [ht]; exact hP9, va_K.moved hW.alike hK, hD9⟩, hS.F ht⟩) hS.2.2 d_Md_longest_16
  · have h := And.right h c_4
    refine lv_aload_n hx hb d_Md_longest_7 rfl (lv_at hl 0 rfl) ?_
    refine lv_iconst (v := 0) hx hb d_Md_longest_8 (by decide) ?_
    refine jn_i (wr := [(a_md_heights, .inl (cI, 4096, .inl md_heights))]) (va_runV (As := [.int 0]) (rest := []) ⟨hx, hb, hml, hown, hts⟩ (c_Md_many l dC dI cI cB cZ adK adV _ a_md a_md_tape a_md_acts a_md_actNumbers a_md_actCounts a_md_pile a_md_begins a_md_goals a_md_ranks a_md_choiceCounts a_md_whens a_md_becomes a_md_guessCounts a_md_guesses a_md_unaryCounts a_md_stack a_md_nexts a_md_isBegin a_md_isGoal a_md_levels a_md_queue a_md_hasGuesses a_md_rounds a_md_marked a_md_other a_md_heights md_size md_at md_token md_tokenPlace md_number md_sign md_bad md_faultPlace md_place md_bank md_unaries md_opens md_piled md_loop md_keptBits md_nexts md_isBegin md_isGoal md_levels md_hasGuesses 0 _ h) (cwV 1 hts (gv_ m_1437 m_1390 m_1391 m_96 m_1392) rfl rfl rfl pd_Md_many ⟨Nat.le_of_ble_eq_true rfl, Nat.le_of_ble_eq_true rfl⟩) ⟨pc_blind, va_recv hK hP (ci := 11) (q0 := 0) rfl rfl, pc_of (hP.sub [0, 1, 2, 3, 4, 5] rfl) hK (hD.sub [0, 1, 2, 3, 4, 5] (by decide) rfl) hN hT hS hA⟩ rfl rfl hl.1 rfl (lv_room (Nat.le_of_ble_eq_true rfl)) d_Md_longest_9 ⟨Nat.zero_le _, Nat.zero_le _⟩) hP hD hS hA [0, 1, 2, 3, 4, 5] [6] rfl rfl (by decide) (by decide) (fun r_1 u_ H locs h hP hD hS => ?_)
    have hP : va_P (dC, dI) vwCl [(a_md_heights, .inl (cI, 4096, .inl md_heights)), (a_md, .inr (11, [.ref a_md_tape, .int md_size, .int md_at, .int md_token, .int md_tokenPlace, .int md_number, .int md_sign, .int md_bad, .int md_faultPlace, .int md_place, .ref a_md_acts, .ref a_md_actNumbers, .ref a_md_actCounts, .int md_bank, .int md_unaries, .int md_opens, .ref a_md_pile, .int md_piled, .int md_loop, .ref a_md_begins, .ref a_md_goals, .ref a_md_ranks, .ref a_md_choiceCounts, .ref a_md_whens, .ref a_md_becomes, .ref a_md_guessCounts, .ref a_md_guesses, .ref a_md_unaryCounts, .ref a_md_stack, .ref a_md_nexts, .ref a_md_isBegin, .ref a_md_isGoal, .ref a_md_levels, .ref a_md_queue, .ref a_md_hasGuesses, .int md_keptBits, .ref a_md_rounds, .ref a_md_marked, .ref a_md_other, .ref a_md_heights])), (a_md_nexts, .inl (cI, 24576, .inl md_nexts)), (a_md_isBegin, .inl (cZ, 4096, .inl md_isBegin)), (a_md_isGoal, .inl (cZ, 4096, .inl md_isGoal)), (a_md_levels, .inl (cI, 4096, .inl md_levels)), (a_md_hasGuesses, .inl (cI, 4096, .inl md_hasGuesses))] H := hP
    have hD : va_D A [(a_md_heights, .inl (cI, 4096, .inl md_heights)), (a_md, .inr (11, [.ref a_md_tape, .int md_size, .int md_at, .int md_token, .int md_tokenPlace, .int md_number, .int md_sign, .int md_bad, .int md_faultPlace, .int md_place, .ref a_md_acts, .ref a_md_actNumbers, .ref a_md_actCounts, .int md_bank, .int md_unaries, .int md_opens, .ref a_md_pile, .int md_piled, .int md_loop, .ref a_md_begins, .ref a_md_goals, .ref a_md_ranks, .ref a_md_choiceCounts, .ref a_md_whens, .ref a_md_becomes, .ref a_md_guessCounts, .ref a_md_guesses, .ref a_md_unaryCounts, .ref a_md_stack, .ref a_md_nexts, .ref a_md_isBegin, .ref a_md_isGoal, .ref a_md_levels, .ref a_md_queue, .ref a_md_hasGuesses, .int md_keptBits, .ref a_md_rounds, .ref a_md_marked, .ref a_md_other, .ref a_md_heights])), (a_md_nexts, .inl (cI, 24576, .inl md_nexts)), (a_md_isBegin, .inl (cZ, 4096, .inl md_isBegin)), (a_md_isGoal, .inl (cZ, 4096, .inl md_isGoal)), (a_md_levels, .inl (cI, 4096, .inl md_levels)), (a_md_hasGuesses, .inl (cI, 4096, .inl md_hasGuesses))] := hD
    refine lv_if_ne (tgt := 17) hx hb d_Md_longest_12 (by decide) (fun c_12 => ?_) (fun c_12 => ?_)
    · have h := And.left h c_12
      refine lv_iconst (v := 0) hx hb d_Md_longest_17 (by decide) ?_
      refine lv_istore_n (lv' := [(1, .int 0), (0, .ref a_md)]) hx hb d_Md_longest_18 rfl hl (by decide) rfl (fun ls hl => ?_)
      have L19_q_4 : ∀ (k39 : (Nat → Int32) → Prop) (hk39 : ∀ (md_heights_5 : Nat → Int32), k39 md_heights_5 → ∀ (H : Heap) (locs : List Loc), va_P (dC, dI) vwCl [(a_md_heights, .inl (cI, 4096, .inl md_heights_5)), (a_md, .inr (11, [.ref a_md_tape, .int md_size, .int md_at, .int md_token, .int md_tokenPlace, .int md_number, .int md_sign, .int md_bad, .int md_faultPlace, .int md_place, .ref a_md_acts, .ref a_md_actNumbers, .ref a_md_actCounts, .int md_bank, .int md_unaries, .int md_opens, .ref a_md_pile, .int md_piled, .int md_loop, .ref a_md_begins, .ref a_md_goals, .ref a_md_ranks, .ref a_md_choiceCounts, .ref a_md_whens, .ref a_md_becomes, .ref a_md_guessCounts, .ref a_md_guesses, .ref a_md_unaryCounts, .ref a_md_stack, .ref a_md_nexts, .ref a_md_isBegin, .ref a_md_isGoal, .ref a_md_levels, .ref a_md_queue, .ref a_md_hasGuesses, .int md_keptBits, .ref a_md_rounds, .ref a_md_marked, .ref a_md_other, .ref a_md_heights])), (a_md_nexts, .inl (cI, 24576, .inl md_nexts)), (a_md_isBegin, .inl (cZ, 4096, .inl md_isBegin)), (a_md_isGoal, .inl (cZ, 4096, .inl md_isGoal)), (a_md_levels, .inl (cI, 4096, .inl md_levels)), (a_md_hasGuesses, .inl (cI, 4096, .inl md_hasGuesses))] H → va_D A [(a_md_heights, .inl (cI, 4096, .inl md_heights_5)), (a_md, .inr (11, [.ref a_md_tape, .int md_size, .int md_at, .int md_token, .int md_tokenPlace, .int md_number, .int md_sign, .int md_bad, .int md_faultPlace, .int md_place, .ref a_md_acts, .ref a_md_actNumbers, .ref a_md_actCounts, .int md_bank, .int md_unaries, .int md_opens, .ref a_md_pile, .int md_piled, .int md_loop, .ref a_md_begins, .ref a_md_goals, .ref a_md_ranks, .ref a_md_choiceCounts, .ref a_md_whens, .ref a_md_becomes, .ref a_md_guessCounts, .ref a_md_guesses, .ref a_md_unaryCounts, .ref a_md_stack, .ref a_md_nexts, .ref a_md_isBegin, .ref a_md_isGoal, .ref a_md_levels, .ref a_md_queue, .ref a_md_hasGuesses, .int md_keptBits, .ref a_md_rounds, .ref a_md_marked, .ref a_md_other, .ref a_md_heights])), (a_md_nexts, .inl (cI, 24576, .inl md_nexts)), (a_md_isBegin, .inl (cZ, 4096, .inl md_isBegin)), (a_md_isGoal, .inl (cZ, 4096, .inl md_isGoal)), (a_md_levels, .inl (cI, 4096, .inl md_levels)), (a_md_hasGuesses, .inl (cI, 4096, .inl md_hasGuesses))] → va_S A s.heap H locs → ∀ ls : Array Slot, lv_has ls 7 [(0, .ref a_md)] → W p l e (headSpec w_Md_longest ({ frames := 2, cells := 0, slots := 0, locals := 51 })).room s m (([.ref a_md] : List Value).toArray) below meth c H locs 0 0 QQ (F0 m 39 ls [])) (n : Nat) (x1_2 : Int32) (md_heights_3 : Nat → Int32), wp_Md_longest_L19 k39 n x1_2 md_heights_3 → ∀ (H : Heap) (locs : List Loc), va_P (dC, dI) vwCl [(a_md_heights, .inl (cI, 4096, .inl md_heights_3)), (a_md, .inr (11, [.ref a_md_tape, .int md_size, .int md_at, .int md_token, .int md_tokenPlace, .int md_number, .int md_sign, .int md_bad, .int md_faultPlace, .int md_place, .ref a_md_acts, .ref a_md_actNumbers, .ref a_md_actCounts, .int md_bank, .int md_unaries, .int md_opens, .ref a_md_pile, .int md_piled, .int md_loop, .ref a_md_begins, .ref a_md_goals, .ref a_md_ranks, .ref a_md_choiceCounts, .ref a_md_whens, .ref a_md_becomes, .ref a_md_guessCounts, .ref a_md_guesses, .ref a_md_unaryCounts, .ref a_md_stack, .ref a_md_nexts, .ref a_md_isBegin, .ref a_md_isGoal, .ref a_md_levels, .ref a_md_queue, .ref a_md_hasGuesses, .int md_keptBits, .ref a_md_rounds, .ref a_md_marked, .ref a_md_other, .ref a_md_heights])), (a_md_nexts, .inl (cI, 24576, .inl md_nexts)), (a_md_isBegin, .inl (cZ, 4096, .inl md_isBegin)), (a_md_isGoal, .inl (cZ, 4096, .inl md_isGoal)), (a_md_levels, .inl (cI, 4096, .inl md_levels)), (a_md_hasGuesses, .inl (cI, 4096, .inl md_hasGuesses))] H → va_D A [(a_md_heights, .inl (cI, 4096, .inl md_heights_3)), (a_md, .inr (11, [.ref a_md_tape, .int md_size, .int md_at, .int md_token, .int md_tokenPlace, .int md_number, .int md_sign, .int md_bad, .int md_faultPlace, .int md_place, .ref a_md_acts, .ref a_md_actNumbers, .ref a_md_actCounts, .int md_bank, .int md_unaries, .int md_opens, .ref a_md_pile, .int md_piled, .int md_loop, .ref a_md_begins, .ref a_md_goals, .ref a_md_ranks, .ref a_md_choiceCounts, .ref a_md_whens, .ref a_md_becomes, .ref a_md_guessCounts, .ref a_md_guesses, .ref a_md_unaryCounts, .ref a_md_stack, .ref a_md_nexts, .ref a_md_isBegin, .ref a_md_isGoal, .ref a_md_levels, .ref a_md_queue, .ref a_md_hasGuesses, .int md_keptBits, .ref a_md_rounds, .ref a_md_marked, .ref a_md_other, .ref a_md_heights])), (a_md_nexts, .inl (cI, 24576, .inl md_nexts)), (a_md_isBegin, .inl (cZ, 4096, .inl md_isBegin)), (a_md_isGoal, .inl (cZ, 4096, .inl md_isGoal)), (a_md_levels, .inl (cI, 4096, .inl md_levels)), (a_md_hasGuesses, .inl (cI, 4096, .inl md_hasGuesses))] → va_S A s.heap H locs → ∀ ls : Array Slot, lv_has ls 7 [(0, .ref a_md), (1, .int x1_2)] → W p l e (headSpec w_Md_longest ({ frames := 2, cells := 0, slots := 0, locals := 51 })).room s m (([.ref a_md] : List Value).toArray) below meth c H locs 0 0 QQ (F0 m 19 ls []) := by
        intro k39 hk39 n
        induction n with
        | zero => intro x1_2 md_heights_3 h; exact (show False from h).elim
        | succ n il =>
          intro x1_2 md_heights_3 h H locs hP hD hS ls hl
          refine lv_iload_n hx hb d_Md_longest_19 rfl (lv_at hl 1 rfl) ?_
          refine lv_sipush (v := 4096) hx hb d_Md_longest_20 (by decide) ?_
          refine lv_icmp_ge (tgt := 39) hx hb d_Md_longest_23 (by decide) (fun c_23 => ?_) (fun c_23 => ?_)
          · have h := And.left h c_23
            exact hk39 _ h _ _ hP hD hS _ (lv_sub hl [0] rfl)
          · have h := And.right h c_23
            refine lv_aload_n hx hb d_Md_longest_26 rfl (lv_at hl 0 rfl) ?_
            refine va_get (D := (dC, dI)) (ci := 11) (v := .ref a_md_heights) (C := "LoopInductionModel") (T := F_Md) (N := 40) hx hb hts iC_Md hown hK hP 1 rfl rfl 39 (by decide) fl_91 (fun _ h9 => h9) rfl d_Md_longest_27 ?_
            refine lv_iload_n hx hb d_Md_longest_30 rfl (lv_at hl 1 rfl) ?_
            refine lv_iconst (v := (-1)) hx hb d_Md_longest_31 (by decide) ?_
            obtain ⟨hin_32, h⟩ := h
            refine va_iast hx hb hK hP hD hS 0 0 rfl rfl hin_32 d_Md_longest_32 (fun H locs hP hD hS => ?_)
            have hP : va_P (dC, dI) vwCl [(a_md_heights, .inl (cI, 4096, .inl (upd md_heights_3 (x1_2 : Int32).toNatClampNeg (-1)))), (a_md, .inr (11, [.ref a_md_tape, .int md_size, .int md_at, .int md_token, .int md_tokenPlace, .int md_number, .int md_sign, .int md_bad, .int md_faultPlace, .int md_place, .ref a_md_acts, .ref a_md_actNumbers, .ref a_md_actCounts, .int md_bank, .int md_unaries, .int md_opens, .ref a_md_pile, .int md_piled, .int md_loop, .ref a_md_begins, .ref a_md_goals, .ref a_md_ranks, .ref a_md_choiceCounts, .ref a_md_whens, .ref a_md_becomes, .ref a_md_guessCounts, .ref a_md_guesses, .ref a_md_unaryCounts, .ref a_md_stack, .ref a_md_nexts, .ref a_md_isBegin, .ref a_md_isGoal, .ref a_md_levels, .ref a_md_queue, .ref a_md_hasGuesses, .int md_keptBits, .ref a_md_rounds, .ref a_md_marked, .ref a_md_other, .ref a_md_heights])), (a_md_nexts, .inl (cI, 24576, .inl md_nexts)), (a_md_isBegin, .inl (cZ, 4096, .inl md_isBegin)), (a_md_isGoal, .inl (cZ, 4096, .inl md_isGoal)), (a_md_levels, .inl (cI, 4096, .inl md_levels)), (a_md_hasGuesses, .inl (cI, 4096, .inl md_hasGuesses))] H := hP
            have hD : va_D A [(a_md_heights, .inl (cI, 4096, .inl (upd md_heights_3 (x1_2 : Int32).toNatClampNeg (-1)))), (a_md, .inr (11, [.ref a_md_tape, .int md_size, .int md_at, .int md_token, .int md_tokenPlace, .int md_number, .int md_sign, .int md_bad, .int md_faultPlace, .int md_place, .ref a_md_acts, .ref a_md_actNumbers, .ref a_md_actCounts, .int md_bank, .int md_unaries, .int md_opens, .ref a_md_pile, .int md_piled, .int md_loop, .ref a_md_begins, .ref a_md_goals, .ref a_md_ranks, .ref a_md_choiceCounts, .ref a_md_whens, .ref a_md_becomes, .ref a_md_guessCounts, .ref a_md_guesses, .ref a_md_unaryCounts, .ref a_md_stack, .ref a_md_nexts, .ref a_md_isBegin, .ref a_md_isGoal, .ref a_md_levels, .ref a_md_queue, .ref a_md_hasGuesses, .int md_keptBits, .ref a_md_rounds, .ref a_md_marked, .ref a_md_other, .ref a_md_heights])), (a_md_nexts, .inl (cI, 24576, .inl md_nexts)), (a_md_isBegin, .inl (cZ, 4096, .inl md_isBegin)), (a_md_isGoal, .inl (cZ, 4096, .inl md_isGoal)), (a_md_levels, .inl (cI, 4096, .inl md_levels)), (a_md_hasGuesses, .inl (cI, 4096, .inl md_hasGuesses))] := hD
            refine lv_iinc (v := x1_2 + 1) (lv' := [(1, .int (x1_2 + 1)), (0, .ref a_md)]) hx hb d_Md_longest_33 hl (k := 1) rfl rfl (by decide) rfl (fun ls hl => ?_)
            refine lv_goto (tgt := 19) hx hb d_Md_longest_36 (by decide) ?_
            exact il _ _ h _ _ hP hD hS _ (lv_sub hl [1, 0] rfl)
      obtain ⟨n_, h⟩ := h
      refine L19_q_4 _ ?_ n_ _ _ h _ _ hP hD hS _ (lv_sub hl [1, 0] rfl)
      intro md_heights_6 h H locs hP hD hS ls hl
      refine lv_iconst (v := 1) hx hb d_Md_longest_39 (by decide) ?_
      refine lv_istore_n (lv' := [(1, .int 1), (0, .ref a_md)]) hx hb d_Md_longest_40 rfl hl (by decide) rfl (fun ls hl => ?_)
      have L41_q_9 : ∀ (k200 : (Nat → Int32) → Prop) (hk200 : ∀ (md_heights_10 : Nat → Int32), k200 md_heights_10 → ∀ (H : Heap) (locs : List Loc), va_P (dC, dI) vwCl [(a_md_heights, .inl (cI, 4096, .inl md_heights_10)), (a_md, .inr (11, [.ref a_md_tape, .int md_size, .int md_at, .int md_token, .int md_tokenPlace, .int md_number, .int md_sign, .int md_bad, .int md_faultPlace, .int md_place, .ref a_md_acts, .ref a_md_actNumbers, .ref a_md_actCounts, .int md_bank, .int md_unaries, .int md_opens, .ref a_md_pile, .int md_piled, .int md_loop, .ref a_md_begins, .ref a_md_goals, .ref a_md_ranks, .ref a_md_choiceCounts, .ref a_md_whens, .ref a_md_becomes, .ref a_md_guessCounts, .ref a_md_guesses, .ref a_md_unaryCounts, .ref a_md_stack, .ref a_md_nexts, .ref a_md_isBegin, .ref a_md_isGoal, .ref a_md_levels, .ref a_md_queue, .ref a_md_hasGuesses, .int md_keptBits, .ref a_md_rounds, .ref a_md_marked, .ref a_md_other, .ref a_md_heights])), (a_md_nexts, .inl (cI, 24576, .inl md_nexts)), (a_md_isBegin, .inl (cZ, 4096, .inl md_isBegin)), (a_md_isGoal, .inl (cZ, 4096, .inl md_isGoal)), (a_md_levels, .inl (cI, 4096, .inl md_levels)), (a_md_hasGuesses, .inl (cI, 4096, .inl md_hasGuesses))] H → va_D A [(a_md_heights, .inl (cI, 4096, .inl md_heights_10)), (a_md, .inr (11, [.ref a_md_tape, .int md_size, .int md_at, .int md_token, .int md_tokenPlace, .int md_number, .int md_sign, .int md_bad, .int md_faultPlace, .int md_place, .ref a_md_acts, .ref a_md_actNumbers, .ref a_md_actCounts, .int md_bank, .int md_unaries, .int md_opens, .ref a_md_pile, .int md_piled, .int md_loop, .ref a_md_begins, .ref a_md_goals, .ref a_md_ranks, .ref a_md_choiceCounts, .ref a_md_whens, .ref a_md_becomes, .ref a_md_guessCounts, .ref a_md_guesses, .ref a_md_unaryCounts, .ref a_md_stack, .ref a_md_nexts, .ref a_md_isBegin, .ref a_md_isGoal, .ref a_md_levels, .ref a_md_queue, .ref a_md_hasGuesses, .int md_keptBits, .ref a_md_rounds, .ref a_md_marked, .ref a_md_other, .ref a_md_heights])), (a_md_nexts, .inl (cI, 24576, .inl md_nexts)), (a_md_isBegin, .inl (cZ, 4096, .inl md_isBegin)), (a_md_isGoal, .inl (cZ, 4096, .inl md_isGoal)), (a_md_levels, .inl (cI, 4096, .inl md_levels)), (a_md_hasGuesses, .inl (cI, 4096, .inl md_hasGuesses))] → va_S A s.heap H locs → ∀ ls : Array Slot, lv_has ls 7 [(0, .ref a_md)] → W p l e (headSpec w_Md_longest ({ frames := 2, cells := 0, slots := 0, locals := 51 })).room s m (([.ref a_md] : List Value).toArray) below meth c H locs 0 0 QQ (F0 m 200 ls [])) (n : Nat) (x1_7 : Int32) (md_heights_8 : Nat → Int32), wp_Md_longest_L41 md_nexts md_levels k200 n x1_7 md_heights_8 → ∀ (H : Heap) (locs : List Loc), va_P (dC, dI) vwCl [(a_md_heights, .inl (cI, 4096, .inl md_heights_8)), (a_md, .inr (11, [.ref a_md_tape, .int md_size, .int md_at, .int md_token, .int md_tokenPlace, .int md_number, .int md_sign, .int md_bad, .int md_faultPlace, .int md_place, .ref a_md_acts, .ref a_md_actNumbers, .ref a_md_actCounts, .int md_bank, .int md_unaries, .int md_opens, .ref a_md_pile, .int md_piled, .int md_loop, .ref a_md_begins, .ref a_md_goals, .ref a_md_ranks, .ref a_md_choiceCounts, .ref a_md_whens, .ref a_md_becomes, .ref a_md_guessCounts, .ref a_md_guesses, .ref a_md_unaryCounts, .ref a_md_stack, .ref a_md_nexts, .ref a_md_isBegin, .ref a_md_isGoal, .ref a_md_levels, .ref a_md_queue, .ref a_md_hasGuesses, .int md_keptBits, .ref a_md_rounds, .ref a_md_marked, .ref a_md_other, .ref a_md_heights])), (a_md_nexts, .inl (cI, 24576, .inl md_nexts)), (a_md_isBegin, .inl (cZ, 4096, .inl md_isBegin)), (a_md_isGoal, .inl (cZ, 4096, .inl md_isGoal)), (a_md_levels, .inl (cI, 4096, .inl md_levels)), (a_md_hasGuesses, .inl (cI, 4096, .inl md_hasGuesses))] H → va_D A [(a_md_heights, .inl (cI, 4096, .inl md_heights_8)), (a_md, .inr (11, [.ref a_md_tape, .int md_size, .int md_at, .int md_token, .int md_tokenPlace, .int md_number, .int md_sign, .int md_bad, .int md_faultPlace, .int md_place, .ref a_md_acts, .ref a_md_actNumbers, .ref a_md_actCounts, .int md_bank, .int md_unaries, .int md_opens, .ref a_md_pile, .int md_piled, .int md_loop, .ref a_md_begins, .ref a_md_goals, .ref a_md_ranks, .ref a_md_choiceCounts, .ref a_md_whens, .ref a_md_becomes, .ref a_md_guessCounts, .ref a_md_guesses, .ref a_md_unaryCounts, .ref a_md_stack, .ref a_md_nexts, .ref a_md_isBegin, .ref a_md_isGoal, .ref a_md_levels, .ref a_md_queue, .ref a_md_hasGuesses, .int md_keptBits, .ref a_md_rounds, .ref a_md_marked, .ref a_md_other, .ref a_md_heights])), (a_md_nexts, .inl (cI, 24576, .inl md_nexts)), (a_md_isBegin, .inl (cZ, 4096, .inl md_isBegin)), (a_md_isGoal, .inl (cZ, 4096, .inl md_isGoal)), (a_md_levels, .inl (cI, 4096, .inl md_levels)), (a_md_hasGuesses, .inl (cI, 4096, .inl md_hasGuesses))] → va_S A s.heap H locs → ∀ ls : Array Slot, lv_has ls 7 [(0, .ref a_md), (1, .int x1_7)] → W p l e (headSpec w_Md_longest ({ frames := 2, cells := 0, slots := 0, locals := 51 })).room s m (([.ref a_md] : List Value).toArray) below meth c H locs 0 0 QQ (F0 m 41 ls []) := by
        intro k200 hk200 n
        induction n with
        | zero => intro x1_7 md_heights_8 h; exact (show False from h).elim
        | succ n il =>
          intro x1_7 md_heights_8 h H locs hP hD hS ls hl
          refine lv_iload_n hx hb d_Md_longest_41 rfl (lv_at hl 1 rfl) ?_
          refine lv_if_eq (tgt := 200) hx hb d_Md_longest_42 (by decide) (fun c_42 => ?_) (fun c_42 => ?_)
          · have h := And.left h c_42
            exact hk200 _ h _ _ hP hD hS _ (lv_sub hl [0] rfl)
          · have h := And.right h c_42
            refine lv_iconst (v := 0) hx hb d_Md_longest_45 (by decide) ?_
            refine lv_istore_n (lv' := [(1, .int 0), (0, .ref a_md)]) hx hb d_Md_longest_46 rfl hl (by decide) rfl (fun ls hl => ?_)
            refine lv_iconst (v := 0) hx hb d_Md_longest_47 (by decide) ?_
            refine lv_istore_n (lv' := [(2, .int 0), (1, .int 0), (0, .ref a_md)]) hx hb d_Md_longest_48 rfl hl (by decide) rfl (fun ls hl => ?_)
            have L49_q_14 : ∀ (k197 : Int32 → (Nat → Int32) → Prop) (hk197 : ∀ (x1_15 : Int32) (md_heights_16 : Nat → Int32), k197 x1_15 md_heights_16 → ∀ (H : Heap) (locs : List Loc), va_P (dC, dI) vwCl [(a_md_heights, .inl (cI, 4096, .inl md_heights_16)), (a_md, .inr (11, [.ref a_md_tape, .int md_size, .int md_at, .int md_token, .int md_tokenPlace, .int md_number, .int md_sign, .int md_bad, .int md_faultPlace, .int md_place, .ref a_md_acts, .ref a_md_actNumbers, .ref a_md_actCounts, .int md_bank, .int md_unaries, .int md_opens, .ref a_md_pile, .int md_piled, .int md_loop, .ref a_md_begins, .ref a_md_goals, .ref a_md_ranks, .ref a_md_choiceCounts, .ref a_md_whens, .ref a_md_becomes, .ref a_md_guessCounts, .ref a_md_guesses, .ref a_md_unaryCounts, .ref a_md_stack, .ref a_md_nexts, .ref a_md_isBegin, .ref a_md_isGoal, .ref a_md_levels, .ref a_md_queue, .ref a_md_hasGuesses, .int md_keptBits, .ref a_md_rounds, .ref a_md_marked, .ref a_md_other, .ref a_md_heights])), (a_md_nexts, .inl (cI, 24576, .inl md_nexts)), (a_md_isBegin, .inl (cZ, 4096, .inl md_isBegin)), (a_md_isGoal, .inl (cZ, 4096, .inl md_isGoal)), (a_md_levels, .inl (cI, 4096, .inl md_levels)), (a_md_hasGuesses, .inl (cI, 4096, .inl md_hasGuesses))] H → va_D A [(a_md_heights, .inl (cI, 4096, .inl md_heights_16)), (a_md, .inr (11, [.ref a_md_tape, .int md_size, .int md_at, .int md_token, .int md_tokenPlace, .int md_number, .int md_sign, .int md_bad, .int md_faultPlace, .int md_place, .ref a_md_acts, .ref a_md_actNumbers, .ref a_md_actCounts, .int md_bank, .int md_unaries, .int md_opens, .ref a_md_pile, .int md_piled, .int md_loop, .ref a_md_begins, .ref a_md_goals, .ref a_md_ranks, .ref a_md_choiceCounts, .ref a_md_whens, .ref a_md_becomes, .ref a_md_guessCounts, .ref a_md_guesses, .ref a_md_unaryCounts, .ref a_md_stack, .ref a_md_nexts, .ref a_md_isBegin, .ref a_md_isGoal, .ref a_md_levels, .ref a_md_queue, .ref a_md_hasGuesses, .int md_keptBits, .ref a_md_rounds, .ref a_md_marked, .ref a_md_other, .ref a_md_heights])), (a_md_nexts, .inl (cI, 24576, .inl md_nexts)), (a_md_isBegin, .inl (cZ, 4096, .inl md_isBegin)), (a_md_isGoal, .inl (cZ, 4096, .inl md_isGoal)), (a_md_levels, .inl (cI, 4096, .inl md_levels)), (a_md_hasGuesses, .inl (cI, 4096, .inl md_hasGuesses))] → va_S A s.heap H locs → ∀ ls : Array Slot, lv_has ls 7 [(0, .ref a_md), (1, .int x1_15)] → W p l e (headSpec w_Md_longest ({ frames := 2, cells := 0, slots := 0, locals := 51 })).room s m (([.ref a_md] : List Value).toArray) below meth c H locs 0 0 QQ (F0 m 197 ls [])) (n : Nat) (x1_11 : Int32) (x2_12 : Int32) (md_heights_13 : Nat → Int32), wp_Md_longest_L49 md_nexts md_levels k197 n x1_11 x2_12 md_heights_13 → ∀ (H : Heap) (locs : List Loc), va_P (dC, dI) vwCl [(a_md_heights, .inl (cI, 4096, .inl md_heights_13)), (a_md, .inr (11, [.ref a_md_tape, .int md_size, .int md_at, .int md_token, .int md_tokenPlace, .int md_number, .int md_sign, .int md_bad, .int md_faultPlace, .int md_place, .ref a_md_acts, .ref a_md_actNumbers, .ref a_md_actCounts, .int md_bank, .int md_unaries, .int md_opens, .ref a_md_pile, .int md_piled, .int md_loop, .ref a_md_begins, .ref a_md_goals, .ref a_md_ranks, .ref a_md_choiceCounts, .ref a_md_whens, .ref a_md_becomes, .ref a_md_guessCounts, .ref a_md_guesses, .ref a_md_unaryCounts, .ref a_md_stack, .ref a_md_nexts, .ref a_md_isBegin, .ref a_md_isGoal, .ref a_md_levels, .ref a_md_queue, .ref a_md_hasGuesses, .int md_keptBits, .ref a_md_rounds, .ref a_md_marked, .ref a_md_other, .ref a_md_heights])), (a_md_nexts, .inl (cI, 24576, .inl md_nexts)), (a_md_isBegin, .inl (cZ, 4096, .inl md_isBegin)), (a_md_isGoal, .inl (cZ, 4096, .inl md_isGoal)), (a_md_levels, .inl (cI, 4096, .inl md_levels)), (a_md_hasGuesses, .inl (cI, 4096, .inl md_hasGuesses))] H → va_D A [(a_md_heights, .inl (cI, 4096, .inl md_heights_13)), (a_md, .inr (11, [.ref a_md_tape, .int md_size, .int md_at, .int md_token, .int md_tokenPlace, .int md_number, .int md_sign, .int md_bad, .int md_faultPlace, .int md_place, .ref a_md_acts, .ref a_md_actNumbers, .ref a_md_actCounts, .int md_bank, .int md_unaries, .int md_opens, .ref a_md_pile, .int md_piled, .int md_loop, .ref a_md_begins, .ref a_md_goals, .ref a_md_ranks, .ref a_md_choiceCounts, .ref a_md_whens, .ref a_md_becomes, .ref a_md_guessCounts, .ref a_md_guesses, .ref a_md_unaryCounts, .ref a_md_stack, .ref a_md_nexts, .ref a_md_isBegin, .ref a_md_isGoal, .ref a_md_levels, .ref a_md_queue, .ref a_md_hasGuesses, .int md_keptBits, .ref a_md_rounds, .ref a_md_marked, .ref a_md_other, .ref a_md_heights])), (a_md_nexts, .inl (cI, 24576, .inl md_nexts)), (a_md_isBegin, .inl (cZ, 4096, .inl md_isBegin)), (a_md_isGoal, .inl (cZ, 4096, .inl md_isGoal)), (a_md_levels, .inl (cI, 4096, .inl md_levels)), (a_md_hasGuesses, .inl (cI, 4096, .inl md_hasGuesses))] → va_S A s.heap H locs → ∀ ls : Array Slot, lv_has ls 7 [(0, .ref a_md), (1, .int x1_11), (2, .int x2_12)] → W p l e (headSpec w_Md_longest ({ frames := 2, cells := 0, slots := 0, locals := 51 })).room s m (([.ref a_md] : List Value).toArray) below meth c H locs 0 0 QQ (F0 m 49 ls []) := by
              intro k197 hk197 n
              induction n with
              | zero => intro x1_11 x2_12 md_heights_13 h; exact (show False from h).elim
              | succ n il =>
                intro x1_11 x2_12 md_heights_13 h H locs hP hD hS ls hl
                refine lv_iload_n hx hb d_Md_longest_49 rfl (lv_at hl 2 rfl) ?_
                refine lv_sipush (v := 4096) hx hb d_Md_longest_50 (by decide) ?_
                refine lv_icmp_ge (tgt := 197) hx hb d_Md_longest_53 (by decide) (fun c_53 => ?_) (fun c_53 => ?_)
                · have h := And.left h c_53
                  exact hk197 _ _ h _ _ hP hD hS _ (lv_sub hl [0, 1] rfl)
                · have h := And.right h c_53
                  refine lv_iload_n hx hb d_Md_longest_56 rfl (lv_at hl 2 rfl) ?_
                  refine lv_istore_n (lv' := [(3, .int x2_12), (0, .ref a_md), (1, .int x1_11), (2, .int x2_12)]) hx hb d_Md_longest_57 rfl hl (by decide) rfl (fun ls hl => ?_)
                  refine lv_aload_n hx hb d_Md_longest_58 rfl (lv_at hl 1 rfl) ?_
                  refine va_get (D := (dC, dI)) (ci := 11) (v := .ref a_md_levels) (C := "LoopInductionModel") (T := F_Md) (N := 40) hx hb hts iC_Md hown hK hP 1 rfl rfl 32 (by decide) fl_73 (fun _ h9 => h9) rfl d_Md_longest_59 ?_
                  refine lv_iload_n hx hb d_Md_longest_62 rfl (lv_at hl 0 rfl) ?_
                  obtain ⟨hin_63, h⟩ := h
                  refine va_iald hx hb hK hP 5 0 rfl rfl hin_63 d_Md_longest_63 ?_
                  refine lv_if_lt (tgt := 191) hx hb d_Md_longest_64 (by decide) (fun c_64 => ?_) (fun c_64 => ?_)
                  · have h := And.left h c_64
                    refine lv_iinc (v := x2_12 + 1) (lv' := [(2, .int (x2_12 + 1)), (3, .int x2_12), (0, .ref a_md), (1, .int x1_11)]) hx hb d_Md_longest_191 hl (k := 3) rfl rfl (by decide) rfl (fun ls hl => ?_)
                    refine lv_goto (tgt := 49) hx hb d_Md_longest_194 (by decide) ?_
                    exact il _ _ _ h _ _ hP hD hS _ (lv_sub hl [2, 3, 0] rfl)
                  · have h := And.right h c_64
                    refine lv_aload_n hx hb d_Md_longest_67 rfl (lv_at hl 1 rfl) ?_
                    refine va_get (D := (dC, dI)) (ci := 11) (v := .ref a_md_heights) (C := "LoopInductionModel") (T := F_Md) (N := 40) hx hb hts iC_Md hown hK hP 1 rfl rfl 39 (by decide) fl_91 (fun _ h9 => h9) rfl d_Md_longest_68 ?_
                    refine lv_iload_n hx hb d_Md_longest_71 rfl (lv_at hl 0 rfl) ?_
                    obtain ⟨hin_72, h⟩ := h
                    refine va_iald hx hb hK hP 0 0 rfl rfl hin_72 d_Md_longest_72 ?_
                    refine lv_if_ge (tgt := 191) hx hb d_Md_longest_73 (by decide) (fun c_73 => ?_) (fun c_73 => ?_)
                    · have h := And.left h c_73
                      refine lv_iinc (v := x2_12 + 1) (lv' := [(2, .int (x2_12 + 1)), (3, .int x2_12), (0, .ref a_md), (1, .int x1_11)]) hx hb d_Md_longest_191 hl (k := 3) rfl rfl (by decide) rfl (fun ls hl => ?_)
                      refine lv_goto (tgt := 49) hx hb d_Md_longest_194 (by decide) ?_
                      exact il _ _ _ h _ _ hP hD hS _ (lv_sub hl [2, 3, 0] rfl)
                    · have h := And.right h c_73
                      refine lv_iconst (v := 0) hx hb d_Md_longest_76 (by decide) ?_
                      refine lv_istore (lv' := [(4, .int 0), (3, .int x2_12), (0, .ref a_md), (1, .int x1_11), (2, .int x2_12)]) hx hb d_Md_longest_77 hl (by decide) rfl (fun ls hl => ?_)
                      refine lv_iconst (v := 0) hx hb d_Md_longest_79 (by decide) ?_
                      refine lv_istore (lv' := [(5, .int 0), (4, .int 0), (3, .int x2_12), (0, .ref a_md), (1, .int x1_11), (2, .int x2_12)]) hx hb d_Md_longest_80 hl (by decide) rfl (fun ls hl => ?_)
                      have L82_q_19 : ∀ (k168 : Int32 → Prop) (hk168 : ∀ (x4_20 : Int32), k168 x4_20 → ∀ (H : Heap) (locs : List Loc), va_P (dC, dI) vwCl [(a_md_heights, .inl (cI, 4096, .inl md_heights_13)), (a_md, .inr (11, [.ref a_md_tape, .int md_size, .int md_at, .int md_token, .int md_tokenPlace, .int md_number, .int md_sign, .int md_bad, .int md_faultPlace, .int md_place, .ref a_md_acts, .ref a_md_actNumbers, .ref a_md_actCounts, .int md_bank, .int md_unaries, .int md_opens, .ref a_md_pile, .int md_piled, .int md_loop, .ref a_md_begins, .ref a_md_goals, .ref a_md_ranks, .ref a_md_choiceCounts, .ref a_md_whens, .ref a_md_becomes, .ref a_md_guessCounts, .ref a_md_guesses, .ref a_md_unaryCounts, .ref a_md_stack, .ref a_md_nexts, .ref a_md_isBegin, .ref a_md_isGoal, .ref a_md_levels, .ref a_md_queue, .ref a_md_hasGuesses, .int md_keptBits, .ref a_md_rounds, .ref a_md_marked, .ref a_md_other, .ref a_md_heights])), (a_md_nexts, .inl (cI, 24576, .inl md_nexts)), (a_md_isBegin, .inl (cZ, 4096, .inl md_isBegin)), (a_md_isGoal, .inl (cZ, 4096, .inl md_isGoal)), (a_md_levels, .inl (cI, 4096, .inl md_levels)), (a_md_hasGuesses, .inl (cI, 4096, .inl md_hasGuesses))] H → va_D A [(a_md_heights, .inl (cI, 4096, .inl md_heights_13)), (a_md, .inr (11, [.ref a_md_tape, .int md_size, .int md_at, .int md_token, .int md_tokenPlace, .int md_number, .int md_sign, .int md_bad, .int md_faultPlace, .int md_place, .ref a_md_acts, .ref a_md_actNumbers, .ref a_md_actCounts, .int md_bank, .int md_unaries, .int md_opens, .ref a_md_pile, .int md_piled, .int md_loop, .ref a_md_begins, .ref a_md_goals, .ref a_md_ranks, .ref a_md_choiceCounts, .ref a_md_whens, .ref a_md_becomes, .ref a_md_guessCounts, .ref a_md_guesses, .ref a_md_unaryCounts, .ref a_md_stack, .ref a_md_nexts, .ref a_md_isBegin, .ref a_md_isGoal, .ref a_md_levels, .ref a_md_queue, .ref a_md_hasGuesses, .int md_keptBits, .ref a_md_rounds, .ref a_md_marked, .ref a_md_other, .ref a_md_heights])), (a_md_nexts, .inl (cI, 24576, .inl md_nexts)), (a_md_isBegin, .inl (cZ, 4096, .inl md_isBegin)), (a_md_isGoal, .inl (cZ, 4096, .inl md_isGoal)), (a_md_levels, .inl (cI, 4096, .inl md_levels)), (a_md_hasGuesses, .inl (cI, 4096, .inl md_hasGuesses))] → va_S A s.heap H locs → ∀ ls : Array Slot, lv_has ls 7 [(0, .ref a_md), (1, .int x1_11), (2, .int x2_12), (3, .int x2_12), (4, .int x4_20)] → W p l e (headSpec w_Md_longest ({ frames := 2, cells := 0, slots := 0, locals := 51 })).room s m (([.ref a_md] : List Value).toArray) below meth c H locs 0 0 QQ (F0 m 168 ls [])) (n : Nat) (x4_17 : Int32) (x5_18 : Int32), wp_Md_longest_L82 x1_11 x2_12 x2_12 md_nexts md_heights_13 k168 n x4_17 x5_18 → ∀ (H : Heap) (locs : List Loc), va_P (dC, dI) vwCl [(a_md_heights, .inl (cI, 4096, .inl md_heights_13)), (a_md, .inr (11, [.ref a_md_tape, .int md_size, .int md_at, .int md_token, .int md_tokenPlace, .int md_number, .int md_sign, .int md_bad, .int md_faultPlace, .int md_place, .ref a_md_acts, .ref a_md_actNumbers, .ref a_md_actCounts, .int md_bank, .int md_unaries, .int md_opens, .ref a_md_pile, .int md_piled, .int md_loop, .ref a_md_begins, .ref a_md_goals, .ref a_md_ranks, .ref a_md_choiceCounts, .ref a_md_whens, .ref a_md_becomes, .ref a_md_guessCounts, .ref a_md_guesses, .ref a_md_unaryCounts, .ref a_md_stack, .ref a_md_nexts, .ref a_md_isBegin, .ref a_md_isGoal, .ref a_md_levels, .ref a_md_queue, .ref a_md_hasGuesses, .int md_keptBits, .ref a_md_rounds, .ref a_md_marked, .ref a_md_other, .ref a_md_heights])), (a_md_nexts, .inl (cI, 24576, .inl md_nexts)), (a_md_isBegin, .inl (cZ, 4096, .inl md_isBegin)), (a_md_isGoal, .inl (cZ, 4096, .inl md_isGoal)), (a_md_levels, .inl (cI, 4096, .inl md_levels)), (a_md_hasGuesses, .inl (cI, 4096, .inl md_hasGuesses))] H → va_D A [(a_md_heights, .inl (cI, 4096, .inl md_heights_13)), (a_md, .inr (11, [.ref a_md_tape, .int md_size, .int md_at, .int md_token, .int md_tokenPlace, .int md_number, .int md_sign, .int md_bad, .int md_faultPlace, .int md_place, .ref a_md_acts, .ref a_md_actNumbers, .ref a_md_actCounts, .int md_bank, .int md_unaries, .int md_opens, .ref a_md_pile, .int md_piled, .int md_loop, .ref a_md_begins, .ref a_md_goals, .ref a_md_ranks, .ref a_md_choiceCounts, .ref a_md_whens, .ref a_md_becomes, .ref a_md_guessCounts, .ref a_md_guesses, .ref a_md_unaryCounts, .ref a_md_stack, .ref a_md_nexts, .ref a_md_isBegin, .ref a_md_isGoal, .ref a_md_levels, .ref a_md_queue, .ref a_md_hasGuesses, .int md_keptBits, .ref a_md_rounds, .ref a_md_marked, .ref a_md_other, .ref a_md_heights])), (a_md_nexts, .inl (cI, 24576, .inl md_nexts)), (a_md_isBegin, .inl (cZ, 4096, .inl md_isBegin)), (a_md_isGoal, .inl (cZ, 4096, .inl md_isGoal)), (a_md_levels, .inl (cI, 4096, .inl md_levels)), (a_md_hasGuesses, .inl (cI, 4096, .inl md_hasGuesses))] → va_S A s.heap H locs → ∀ ls : Array Slot, lv_has ls 7 [(0, .ref a_md), (1, .int x1_11), (2, .int x2_12), (3, .int x2_12), (4, .int x4_17), (5, .int x5_18)] → W p l e (headSpec w_Md_longest ({ frames := 2, cells := 0, slots := 0, locals := 51 })).room s m (([.ref a_md] : List Value).toArray) below meth c H locs 0 0 QQ (F0 m 82 ls []) := by
                        intro k168 hk168 n
                        induction n with
                        | zero => intro x4_17 x5_18 h; exact (show False from h).elim
                        | succ n il =>
                          intro x4_17 x5_18 h H locs hP hD hS ls hl
                          refine lv_iload hx hb d_Md_longest_82 (lv_at hl 5 rfl) ?_
                          refine lv_bipush (v := 6) hx hb d_Md_longest_84 (by decide) ?_
                          refine lv_icmp_ge (tgt := 168) hx hb d_Md_longest_86 (by decide) (fun c_86 => ?_) (fun c_86 => ?_)
                          · have h := And.left h c_86
                            exact hk168 _ h _ _ hP hD hS _ (lv_sub hl [0, 1, 2, 3, 4] rfl)
                          · have h := And.right h c_86
                            refine lv_iload hx hb d_Md_longest_89 (lv_at hl 4 rfl) ?_
                            refine lv_if_lt (tgt := 168) hx hb d_Md_longest_91 (by decide) (fun c_91 => ?_) (fun c_91 => ?_)
                            · have h := And.left h c_91
                              exact hk168 _ h _ _ hP hD hS _ (lv_sub hl [0, 1, 2, 3, 4] rfl)
                            · have h := And.right h c_91
                              refine lv_aload_n hx hb d_Md_longest_94 rfl (lv_at hl 0 rfl) ?_
                              refine va_get (D := (dC, dI)) (ci := 11) (v := .ref a_md_nexts) (C := "LoopInductionModel") (T := F_Md) (N := 40) hx hb hts iC_Md hown hK hP 1 rfl rfl 29 (by decide) fl_63 (fun _ h9 => h9) rfl d_Md_longest_95 ?_
                              refine lv_bipush (v := 6) hx hb d_Md_longest_98 (by decide) ?_
                              refine lv_iload_n hx hb d_Md_longest_100 rfl (lv_at hl 3 rfl) ?_
                              refine lv_imul hx hb d_Md_longest_101 ?_
                              refine lv_iload hx hb d_Md_longest_102 (lv_at hl 5 rfl) ?_
                              refine lv_iadd hx hb d_Md_longest_104 ?_
                              obtain ⟨hin_105, h⟩ := h
                              refine va_iald hx hb hK hP 2 0 rfl rfl hin_105 d_Md_longest_105 ?_
                              refine lv_topi (fun x6_21 ex6_21 => ?_)
                              have h := h x6_21 ex6_21
                              refine lv_istore (lv' := [(6, .int x6_21), (0, .ref a_md), (1, .int x1_11), (2, .int x2_12), (3, .int x2_12), (4, .int x4_17), (5, .int x5_18)]) hx hb d_Md_longest_106 hl (by decide) rfl (fun ls hl => ?_)
                              refine lv_iload hx hb d_Md_longest_108 (lv_at hl 0 rfl) ?_
                              refine lv_if_ge (tgt := 118) hx hb d_Md_longest_110 (by decide) (fun c_110 => ?_) (fun c_110 => ?_)
                              · have h := And.left h c_110
                                refine lv_aload_n hx hb d_Md_longest_118 rfl (lv_at hl 1 rfl) ?_
                                refine va_get (D := (dC, dI)) (ci := 11) (v := .ref a_md_heights) (C := "LoopInductionModel") (T := F_Md) (N := 40) hx hb hts iC_Md hown hK hP 1 rfl rfl 39 (by decide) fl_91 (fun _ h9 => h9) rfl d_Md_longest_119 ?_
                                refine lv_iload hx hb d_Md_longest_122 (lv_at hl 0 rfl) ?_
                                obtain ⟨hin_124, h⟩ := h
                                refine va_iald hx hb hK hP 0 0 rfl rfl hin_124 d_Md_longest_124 ?_
                                refine lv_if_ge (tgt := 132) hx hb d_Md_longest_125 (by decide) (fun c_125 => ?_) (fun c_125 => ?_)
                                · have h := And.left h c_125
                                  refine lv_aload_n hx hb d_Md_longest_132 rfl (lv_at hl 1 rfl) ?_
                                  refine va_get (D := (dC, dI)) (ci := 11) (v := .ref a_md_heights) (C := "LoopInductionModel") (T := F_Md) (N := 40) hx hb hts iC_Md hown hK hP 1 rfl rfl 39 (by decide) fl_91 (fun _ h9 => h9) rfl d_Md_longest_133 ?_
                                  refine lv_iload hx hb d_Md_longest_136 (lv_at hl 0 rfl) ?_
                                  obtain ⟨hin_138, h⟩ := h
                                  refine va_iald hx hb hK hP 0 0 rfl rfl hin_138 d_Md_longest_138 ?_
                                  refine lv_iconst (v := 1) hx hb d_Md_longest_139 (by decide) ?_
                                  refine lv_iadd hx hb d_Md_longest_140 ?_
                                  refine lv_iload hx hb d_Md_longest_141 (lv_at hl 5 rfl) ?_
                                  refine lv_icmp_le (tgt := 158) hx hb d_Md_longest_143 (by decide) (fun c_143 => ?_) (fun c_143 => ?_)
                                  · have h := And.left h c_143
                                    refine lv_iload hx hb d_Md_longest_158 (lv_at hl 5 rfl) ?_
                                    refine lv_istore (lv' := [(4, .int x4_17), (6, .int x6_21), (0, .ref a_md), (1, .int x1_11), (2, .int x2_12), (3, .int x2_12), (5, .int x5_18)]) hx hb d_Md_longest_160 hl (by decide) rfl (fun ls hl => ?_)
                                    refine lv_iinc (v := x5_18 + 1) (lv' := [(5, .int (x5_18 + 1)), (4, .int x4_17), (6, .int x6_21), (0, .ref a_md), (1, .int x1_11), (2, .int x2_12), (3, .int x2_12)]) hx hb d_Md_longest_162 hl (k := 6) rfl rfl (by decide) rfl (fun ls hl => ?_)
                                    refine lv_goto (tgt := 82) hx hb d_Md_longest_165 (by decide) ?_
                                    exact il _ _ h _ _ hP hD hS _ (lv_sub hl [3, 4, 5, 6, 1, 0] rfl)
                                  · have h := And.right h c_143
                                    refine lv_aload_n hx hb d_Md_longest_146 rfl (lv_at hl 1 rfl) ?_
                                    refine va_get (D := (dC, dI)) (ci := 11) (v := .ref a_md_heights) (C := "LoopInductionModel") (T := F_Md) (N := 40) hx hb hts iC_Md hown hK hP 1 rfl rfl 39 (by decide) fl_91 (fun _ h9 => h9) rfl d_Md_longest_147 ?_
                                    refine lv_iload hx hb d_Md_longest_150 (lv_at hl 0 rfl) ?_
                                    obtain ⟨hin_152, h⟩ := h
                                    refine va_iald hx hb hK hP 0 0 rfl rfl hin_152 d_Md_longest_152 ?_
                                    refine lv_iconst (v := 1) hx hb d_Md_longest_153 (by decide) ?_
                                    refine lv_iadd hx hb d_Md_longest_154 ?_
                                    refine lv_goto (tgt := 160) hx hb d_Md_longest_155 (by decide) ?_
                                    refine lv_topi (fun x4_22 ex4_22 => ?_)
                                    have h := h x4_22 ex4_22
                                    refine lv_istore (lv' := [(4, .int x4_22), (6, .int x6_21), (0, .ref a_md), (1, .int x1_11), (2, .int x2_12), (3, .int x2_12), (5, .int x5_18)]) hx hb d_Md_longest_160 hl (by decide) rfl (fun ls hl => ?_)
                                    refine lv_iinc (v := x5_18 + 1) (lv' := [(5, .int (x5_18 + 1)), (4, .int x4_22), (6, .int x6_21), (0, .ref a_md), (1, .int x1_11), (2, .int x2_12), (3, .int x2_12)]) hx hb d_Md_longest_162 hl (k := 6) rfl rfl (by decide) rfl (fun ls hl => ?_)
                                    refine lv_goto (tgt := 82) hx hb d_Md_longest_165 (by decide) ?_
                                    exact il _ _ h _ _ hP hD hS _ (lv_sub hl [3, 4, 5, 6, 1, 0] rfl)
                                · have h := And.right h c_125
                                  refine lv_iconst (v := (-1)) hx hb d_Md_longest_128 (by decide) ?_
                                  refine lv_goto (tgt := 160) hx hb d_Md_longest_129 (by decide) ?_
                                  refine lv_istore (lv' := [(4, .int (-1)), (6, .int x6_21), (0, .ref a_md), (1, .int x1_11), (2, .int x2_12), (3, .int x2_12), (5, .int x5_18)]) hx hb d_Md_longest_160 hl (by decide) rfl (fun ls hl => ?_)
                                  refine lv_iinc (v := x5_18 + 1) (lv' := [(5, .int (x5_18 + 1)), (4, .int (-1)), (6, .int x6_21), (0, .ref a_md), (1, .int x1_11), (2, .int x2_12), (3, .int x2_12)]) hx hb d_Md_longest_162 hl (k := 6) rfl rfl (by decide) rfl (fun ls hl => ?_)
                                  refine lv_goto (tgt := 82) hx hb d_Md_longest_165 (by decide) ?_
                                  exact il _ _ h _ _ hP hD hS _ (lv_sub hl [3, 4, 5, 6, 1, 0] rfl)
                              · have h := And.right h c_110
                                refine lv_iload hx hb d_Md_longest_113 (lv_at hl 5 rfl) ?_
                                refine lv_goto (tgt := 160) hx hb d_Md_longest_115 (by decide) ?_
                                refine lv_istore (lv' := [(4, .int x4_17), (6, .int x6_21), (0, .ref a_md), (1, .int x1_11), (2, .int x2_12), (3, .int x2_12), (5, .int x5_18)]) hx hb d_Md_longest_160 hl (by decide) rfl (fun ls hl => ?_)
                                refine lv_iinc (v := x5_18 + 1) (lv' := [(5, .int (x5_18 + 1)), (4, .int x4_17), (6, .int x6_21), (0, .ref a_md), (1, .int x1_11), (2, .int x2_12), (3, .int x2_12)]) hx hb d_Md_longest_162 hl (k := 6) rfl rfl (by decide) rfl (fun ls hl => ?_)
                                refine lv_goto (tgt := 82) hx hb d_Md_longest_165 (by decide) ?_
                                exact il _ _ h _ _ hP hD hS _ (lv_sub hl [3, 4, 5, 6, 1, 0] rfl)
                      obtain ⟨n_, h⟩ := h
                      refine L82_q_19 _ ?_ n_ _ _ h _ _ hP hD hS _ (lv_sub hl [3, 4, 5, 2, 1, 0] rfl)
                      intro x4_23 h H locs hP hD hS ls hl
                      refine lv_aload_n hx hb d_Md_longest_168 rfl (lv_at hl 0 rfl) ?_
                      refine va_get (D := (dC, dI)) (ci := 11) (v := .ref a_md_heights) (C := "LoopInductionModel") (T := F_Md) (N := 40) hx hb hts iC_Md hown hK hP 1 rfl rfl 39 (by decide) fl_91 (fun _ h9 => h9) rfl d_Md_longest_169 ?_
                      refine lv_iload_n hx hb d_Md_longest_172 rfl (lv_at hl 3 rfl) ?_
                      refine lv_iload hx hb d_Md_longest_173 (lv_at hl 4 rfl) ?_
                      obtain ⟨hin_175, h⟩ := h
                      refine va_iast hx hb hK hP hD hS 0 0 rfl rfl hin_175 d_Md_longest_175 (fun H locs hP hD hS => ?_)
                      have hP : va_P (dC, dI) vwCl [(a_md_heights, .inl (cI, 4096, .inl (upd md_heights_13 (x2_12 : Int32).toNatClampNeg x4_23))), (a_md, .inr (11, [.ref a_md_tape, .int md_size, .int md_at, .int md_token, .int md_tokenPlace, .int md_number, .int md_sign, .int md_bad, .int md_faultPlace, .int md_place, .ref a_md_acts, .ref a_md_actNumbers, .ref a_md_actCounts, .int md_bank, .int md_unaries, .int md_opens, .ref a_md_pile, .int md_piled, .int md_loop, .ref a_md_begins, .ref a_md_goals, .ref a_md_ranks, .ref a_md_choiceCounts, .ref a_md_whens, .ref a_md_becomes, .ref a_md_guessCounts, .ref a_md_guesses, .ref a_md_unaryCounts, .ref a_md_stack, .ref a_md_nexts, .ref a_md_isBegin, .ref a_md_isGoal, .ref a_md_levels, .ref a_md_queue, .ref a_md_hasGuesses, .int md_keptBits, .ref a_md_rounds, .ref a_md_marked, .ref a_md_other, .ref a_md_heights])), (a_md_nexts, .inl (cI, 24576, .inl md_nexts)), (a_md_isBegin, .inl (cZ, 4096, .inl md_isBegin)), (a_md_isGoal, .inl (cZ, 4096, .inl md_isGoal)), (a_md_levels, .inl (cI, 4096, .inl md_levels)), (a_md_hasGuesses, .inl (cI, 4096, .inl md_hasGuesses))] H := hP
                      have hD : va_D A [(a_md_heights, .inl (cI, 4096, .inl (upd md_heights_13 (x2_12 : Int32).toNatClampNeg x4_23))), (a_md, .inr (11, [.ref a_md_tape, .int md_size, .int md_at, .int md_token, .int md_tokenPlace, .int md_number, .int md_sign, .int md_bad, .int md_faultPlace, .int md_place, .ref a_md_acts, .ref a_md_actNumbers, .ref a_md_actCounts, .int md_bank, .int md_unaries, .int md_opens, .ref a_md_pile, .int md_piled, .int md_loop, .ref a_md_begins, .ref a_md_goals, .ref a_md_ranks, .ref a_md_choiceCounts, .ref a_md_whens, .ref a_md_becomes, .ref a_md_guessCounts, .ref a_md_guesses, .ref a_md_unaryCounts, .ref a_md_stack, .ref a_md_nexts, .ref a_md_isBegin, .ref a_md_isGoal, .ref a_md_levels, .ref a_md_queue, .ref a_md_hasGuesses, .int md_keptBits, .ref a_md_rounds, .ref a_md_marked, .ref a_md_other, .ref a_md_heights])), (a_md_nexts, .inl (cI, 24576, .inl md_nexts)), (a_md_isBegin, .inl (cZ, 4096, .inl md_isBegin)), (a_md_isGoal, .inl (cZ, 4096, .inl md_isGoal)), (a_md_levels, .inl (cI, 4096, .inl md_levels)), (a_md_hasGuesses, .inl (cI, 4096, .inl md_hasGuesses))] := hD
                      refine lv_iload_n hx hb d_Md_longest_176 rfl (lv_at hl 1 rfl) ?_
                      refine lv_if_ne (tgt := 185) hx hb d_Md_longest_177 (by decide) (fun c_177 => ?_) (fun c_177 => ?_)
                      · have h := And.left h c_177
                        refine lv_iconst (v := 1) hx hb d_Md_longest_185 (by decide) ?_
                        refine lv_goto (tgt := 190) hx hb d_Md_longest_186 (by decide) ?_
                        refine lv_istore_n (lv' := [(1, .int 1), (0, .ref a_md), (2, .int x2_12), (3, .int x2_12), (4, .int x4_23)]) hx hb d_Md_longest_190 rfl hl (by decide) rfl (fun ls hl => ?_)
                        refine lv_iinc (v := x2_12 + 1) (lv' := [(2, .int (x2_12 + 1)), (1, .int 1), (0, .ref a_md), (3, .int x2_12), (4, .int x4_23)]) hx hb d_Md_longest_191 hl (k := 2) rfl rfl (by decide) rfl (fun ls hl => ?_)
                        refine lv_goto (tgt := 49) hx hb d_Md_longest_194 (by decide) ?_
                        exact il _ _ _ h _ _ hP hD hS _ (lv_sub hl [2, 1, 0] rfl)
                      · have h := And.right h c_177
                        refine lv_iload hx hb d_Md_longest_180 (lv_at hl 4 rfl) ?_
                        refine lv_if_lt (tgt := 189) hx hb d_Md_longest_182 (by decide) (fun c_182 => ?_) (fun c_182 => ?_)
                        · have h := And.left h c_182
                          refine lv_iconst (v := 0) hx hb d_Md_longest_189 (by decide) ?_
                          refine lv_istore_n (lv' := [(1, .int 0), (0, .ref a_md), (2, .int x2_12), (3, .int x2_12), (4, .int x4_23)]) hx hb d_Md_longest_190 rfl hl (by decide) rfl (fun ls hl => ?_)
                          refine lv_iinc (v := x2_12 + 1) (lv' := [(2, .int (x2_12 + 1)), (1, .int 0), (0, .ref a_md), (3, .int x2_12), (4, .int x4_23)]) hx hb d_Md_longest_191 hl (k := 2) rfl rfl (by decide) rfl (fun ls hl => ?_)
                          refine lv_goto (tgt := 49) hx hb d_Md_longest_194 (by decide) ?_
                          exact il _ _ _ h _ _ hP hD hS _ (lv_sub hl [2, 1, 0] rfl)
                        · have h := And.right h c_182
                          refine lv_iconst (v := 1) hx hb d_Md_longest_185 (by decide) ?_
                          refine lv_goto (tgt := 190) hx hb d_Md_longest_186 (by decide) ?_
                          refine lv_istore_n (lv' := [(1, .int 1), (0, .ref a_md), (2, .int x2_12), (3, .int x2_12), (4, .int x4_23)]) hx hb d_Md_longest_190 rfl hl (by decide) rfl (fun ls hl => ?_)
                          refine lv_iinc (v := x2_12 + 1) (lv' := [(2, .int (x2_12 + 1)), (1, .int 1), (0, .ref a_md), (3, .int x2_12), (4, .int x4_23)]) hx hb d_Md_longest_191 hl (k := 2) rfl rfl (by decide) rfl (fun ls hl => ?_)
                          refine lv_goto (tgt := 49) hx hb d_Md_longest_194 (by decide) ?_
                          exact il _ _ _ h _ _ hP hD hS _ (lv_sub hl [2, 1, 0] rfl)
            obtain ⟨n_, h⟩ := h
            refine L49_q_14 _ ?_ n_ _ _ _ h _ _ hP hD hS _ (lv_sub hl [2, 1, 0] rfl)
            intro x1_24 md_heights_25 h H locs hP hD hS ls hl
            refine lv_goto (tgt := 41) hx hb d_Md_longest_197 (by decide) ?_
            exact il _ _ h _ _ hP hD hS _ hl
      obtain ⟨n_, h⟩ := h
      refine L41_q_9 _ ?_ n_ _ _ h _ _ hP hD hS _ (lv_sub hl [1, 0] rfl)
      intro md_heights_26 h H locs hP hD hS ls hl
      refine lv_iconst (v := 0) hx hb d_Md_longest_200 (by decide) ?_
      refine lv_istore_n (lv' := [(2, .int 0), (0, .ref a_md)]) hx hb d_Md_longest_201 rfl hl (by decide) rfl (fun ls hl => ?_)
      refine lv_iconst (v := 0) hx hb d_Md_longest_202 (by decide) ?_
      refine lv_istore_n (lv' := [(3, .int 0), (2, .int 0), (0, .ref a_md)]) hx hb d_Md_longest_203 rfl hl (by decide) rfl (fun ls hl => ?_)
      have L204_q_29 : ∀ (k269 : Int32 → Prop) (hk269 : ∀ (x2_30 : Int32), k269 x2_30 → ∀ (H : Heap) (locs : List Loc), va_P (dC, dI) vwCl [(a_md_heights, .inl (cI, 4096, .inl md_heights_26)), (a_md, .inr (11, [.ref a_md_tape, .int md_size, .int md_at, .int md_token, .int md_tokenPlace, .int md_number, .int md_sign, .int md_bad, .int md_faultPlace, .int md_place, .ref a_md_acts, .ref a_md_actNumbers, .ref a_md_actCounts, .int md_bank, .int md_unaries, .int md_opens, .ref a_md_pile, .int md_piled, .int md_loop, .ref a_md_begins, .ref a_md_goals, .ref a_md_ranks, .ref a_md_choiceCounts, .ref a_md_whens, .ref a_md_becomes, .ref a_md_guessCounts, .ref a_md_guesses, .ref a_md_unaryCounts, .ref a_md_stack, .ref a_md_nexts, .ref a_md_isBegin, .ref a_md_isGoal, .ref a_md_levels, .ref a_md_queue, .ref a_md_hasGuesses, .int md_keptBits, .ref a_md_rounds, .ref a_md_marked, .ref a_md_other, .ref a_md_heights])), (a_md_nexts, .inl (cI, 24576, .inl md_nexts)), (a_md_isBegin, .inl (cZ, 4096, .inl md_isBegin)), (a_md_isGoal, .inl (cZ, 4096, .inl md_isGoal)), (a_md_levels, .inl (cI, 4096, .inl md_levels)), (a_md_hasGuesses, .inl (cI, 4096, .inl md_hasGuesses))] H → va_D A [(a_md_heights, .inl (cI, 4096, .inl md_heights_26)), (a_md, .inr (11, [.ref a_md_tape, .int md_size, .int md_at, .int md_token, .int md_tokenPlace, .int md_number, .int md_sign, .int md_bad, .int md_faultPlace, .int md_place, .ref a_md_acts, .ref a_md_actNumbers, .ref a_md_actCounts, .int md_bank, .int md_unaries, .int md_opens, .ref a_md_pile, .int md_piled, .int md_loop, .ref a_md_begins, .ref a_md_goals, .ref a_md_ranks, .ref a_md_choiceCounts, .ref a_md_whens, .ref a_md_becomes, .ref a_md_guessCounts, .ref a_md_guesses, .ref a_md_unaryCounts, .ref a_md_stack, .ref a_md_nexts, .ref a_md_isBegin, .ref a_md_isGoal, .ref a_md_levels, .ref a_md_queue, .ref a_md_hasGuesses, .int md_keptBits, .ref a_md_rounds, .ref a_md_marked, .ref a_md_other, .ref a_md_heights])), (a_md_nexts, .inl (cI, 24576, .inl md_nexts)), (a_md_isBegin, .inl (cZ, 4096, .inl md_isBegin)), (a_md_isGoal, .inl (cZ, 4096, .inl md_isGoal)), (a_md_levels, .inl (cI, 4096, .inl md_levels)), (a_md_hasGuesses, .inl (cI, 4096, .inl md_hasGuesses))] → va_S A s.heap H locs → ∀ ls : Array Slot, lv_has ls 7 [(2, .int x2_30)] → W p l e (headSpec w_Md_longest ({ frames := 2, cells := 0, slots := 0, locals := 51 })).room s m (([.ref a_md] : List Value).toArray) below meth c H locs 0 0 QQ (F0 m 269 ls [])) (k229 : Prop) (hk229 : k229 → ∀ (H : Heap) (locs : List Loc), va_P (dC, dI) vwCl [(a_md_heights, .inl (cI, 4096, .inl md_heights_26)), (a_md, .inr (11, [.ref a_md_tape, .int md_size, .int md_at, .int md_token, .int md_tokenPlace, .int md_number, .int md_sign, .int md_bad, .int md_faultPlace, .int md_place, .ref a_md_acts, .ref a_md_actNumbers, .ref a_md_actCounts, .int md_bank, .int md_unaries, .int md_opens, .ref a_md_pile, .int md_piled, .int md_loop, .ref a_md_begins, .ref a_md_goals, .ref a_md_ranks, .ref a_md_choiceCounts, .ref a_md_whens, .ref a_md_becomes, .ref a_md_guessCounts, .ref a_md_guesses, .ref a_md_unaryCounts, .ref a_md_stack, .ref a_md_nexts, .ref a_md_isBegin, .ref a_md_isGoal, .ref a_md_levels, .ref a_md_queue, .ref a_md_hasGuesses, .int md_keptBits, .ref a_md_rounds, .ref a_md_marked, .ref a_md_other, .ref a_md_heights])), (a_md_nexts, .inl (cI, 24576, .inl md_nexts)), (a_md_isBegin, .inl (cZ, 4096, .inl md_isBegin)), (a_md_isGoal, .inl (cZ, 4096, .inl md_isGoal)), (a_md_levels, .inl (cI, 4096, .inl md_levels)), (a_md_hasGuesses, .inl (cI, 4096, .inl md_hasGuesses))] H → va_D A [(a_md_heights, .inl (cI, 4096, .inl md_heights_26)), (a_md, .inr (11, [.ref a_md_tape, .int md_size, .int md_at, .int md_token, .int md_tokenPlace, .int md_number, .int md_sign, .int md_bad, .int md_faultPlace, .int md_place, .ref a_md_acts, .ref a_md_actNumbers, .ref a_md_actCounts, .int md_bank, .int md_unaries, .int md_opens, .ref a_md_pile, .int md_piled, .int md_loop, .ref a_md_begins, .ref a_md_goals, .ref a_md_ranks, .ref a_md_choiceCounts, .ref a_md_whens, .ref a_md_becomes, .ref a_md_guessCounts, .ref a_md_guesses, .ref a_md_unaryCounts, .ref a_md_stack, .ref a_md_nexts, .ref a_md_isBegin, .ref a_md_isGoal, .ref a_md_levels, .ref a_md_queue, .ref a_md_hasGuesses, .int md_keptBits, .ref a_md_rounds, .ref a_md_marked, .ref a_md_other, .ref a_md_heights])), (a_md_nexts, .inl (cI, 24576, .inl md_nexts)), (a_md_isBegin, .inl (cZ, 4096, .inl md_isBegin)), (a_md_isGoal, .inl (cZ, 4096, .inl md_isGoal)), (a_md_levels, .inl (cI, 4096, .inl md_levels)), (a_md_hasGuesses, .inl (cI, 4096, .inl md_hasGuesses))] → va_S A s.heap H locs → ∀ ls : Array Slot, lv_has ls 7 [] → W p l e (headSpec w_Md_longest ({ frames := 2, cells := 0, slots := 0, locals := 51 })).room s m (([.ref a_md] : List Value).toArray) below meth c H locs 0 0 QQ (F0 m 229 ls [])) (n : Nat) (x2_27 : Int32) (x3_28 : Int32), wp_Md_longest_L204 md_isBegin md_levels md_heights_26 k269 k229 n x2_27 x3_28 → ∀ (H : Heap) (locs : List Loc), va_P (dC, dI) vwCl [(a_md_heights, .inl (cI, 4096, .inl md_heights_26)), (a_md, .inr (11, [.ref a_md_tape, .int md_size, .int md_at, .int md_token, .int md_tokenPlace, .int md_number, .int md_sign, .int md_bad, .int md_faultPlace, .int md_place, .ref a_md_acts, .ref a_md_actNumbers, .ref a_md_actCounts, .int md_bank, .int md_unaries, .int md_opens, .ref a_md_pile, .int md_piled, .int md_loop, .ref a_md_begins, .ref a_md_goals, .ref a_md_ranks, .ref a_md_choiceCounts, .ref a_md_whens, .ref a_md_becomes, .ref a_md_guessCounts, .ref a_md_guesses, .ref a_md_unaryCounts, .ref a_md_stack, .ref a_md_nexts, .ref a_md_isBegin, .ref a_md_isGoal, .ref a_md_levels, .ref a_md_queue, .ref a_md_hasGuesses, .int md_keptBits, .ref a_md_rounds, .ref a_md_marked, .ref a_md_other, .ref a_md_heights])), (a_md_nexts, .inl (cI, 24576, .inl md_nexts)), (a_md_isBegin, .inl (cZ, 4096, .inl md_isBegin)), (a_md_isGoal, .inl (cZ, 4096, .inl md_isGoal)), (a_md_levels, .inl (cI, 4096, .inl md_levels)), (a_md_hasGuesses, .inl (cI, 4096, .inl md_hasGuesses))] H → va_D A [(a_md_heights, .inl (cI, 4096, .inl md_heights_26)), (a_md, .inr (11, [.ref a_md_tape, .int md_size, .int md_at, .int md_token, .int md_tokenPlace, .int md_number, .int md_sign, .int md_bad, .int md_faultPlace, .int md_place, .ref a_md_acts, .ref a_md_actNumbers, .ref a_md_actCounts, .int md_bank, .int md_unaries, .int md_opens, .ref a_md_pile, .int md_piled, .int md_loop, .ref a_md_begins, .ref a_md_goals, .ref a_md_ranks, .ref a_md_choiceCounts, .ref a_md_whens, .ref a_md_becomes, .ref a_md_guessCounts, .ref a_md_guesses, .ref a_md_unaryCounts, .ref a_md_stack, .ref a_md_nexts, .ref a_md_isBegin, .ref a_md_isGoal, .ref a_md_levels, .ref a_md_queue, .ref a_md_hasGuesses, .int md_keptBits, .ref a_md_rounds, .ref a_md_marked, .ref a_md_other, .ref a_md_heights])), (a_md_nexts, .inl (cI, 24576, .inl md_nexts)), (a_md_isBegin, .inl (cZ, 4096, .inl md_isBegin)), (a_md_isGoal, .inl (cZ, 4096, .inl md_isGoal)), (a_md_levels, .inl (cI, 4096, .inl md_levels)), (a_md_hasGuesses, .inl (cI, 4096, .inl md_hasGuesses))] → va_S A s.heap H locs → ∀ ls : Array Slot, lv_has ls 7 [(0, .ref a_md), (2, .int x2_27), (3, .int x3_28)] → W p l e (headSpec w_Md_longest ({ frames := 2, cells := 0, slots := 0, locals := 51 })).room s m (([.ref a_md] : List Value).toArray) below meth c H locs 0 0 QQ (F0 m 204 ls []) := by
        intro k269 hk269 k229 hk229 n
        induction n with
        | zero => intro x2_27 x3_28 h; exact (show False from h).elim
        | succ n il =>
          intro x2_27 x3_28 h H locs hP hD hS ls hl
          refine lv_iload_n hx hb d_Md_longest_204 rfl (lv_at hl 2 rfl) ?_
          refine lv_sipush (v := 4096) hx hb d_Md_longest_205 (by decide) ?_
          refine lv_icmp_ge (tgt := 269) hx hb d_Md_longest_208 (by decide) (fun c_208 => ?_) (fun c_208 => ?_)
          · have h := And.left h c_208
            exact hk269 _ h _ _ hP hD hS _ (lv_sub hl [1] rfl)
          · have h := And.right h c_208
            refine lv_aload_n hx hb d_Md_longest_211 rfl (lv_at hl 0 rfl) ?_
            refine va_get (D := (dC, dI)) (ci := 11) (v := .ref a_md_levels) (C := "LoopInductionModel") (T := F_Md) (N := 40) hx hb hts iC_Md hown hK hP 1 rfl rfl 32 (by decide) fl_73 (fun _ h9 => h9) rfl d_Md_longest_212 ?_
            refine lv_iload_n hx hb d_Md_longest_215 rfl (lv_at hl 2 rfl) ?_
            obtain ⟨hin_216, h⟩ := h
            refine va_iald hx hb hK hP 5 0 rfl rfl hin_216 d_Md_longest_216 ?_
            refine lv_if_lt (tgt := 233) hx hb d_Md_longest_217 (by decide) (fun c_217 => ?_) (fun c_217 => ?_)
            · have h := And.left h c_217
              refine lv_aload_n hx hb d_Md_longest_233 rfl (lv_at hl 0 rfl) ?_
              refine va_get (D := (dC, dI)) (ci := 11) (v := .ref a_md_isBegin) (C := "LoopInductionModel") (T := F_Md) (N := 40) hx hb hts iC_Md hown hK hP 1 rfl rfl 30 (by decide) fl_66 (fun _ h9 => h9) rfl d_Md_longest_234 ?_
              refine lv_iload_n hx hb d_Md_longest_237 rfl (lv_at hl 2 rfl) ?_
              obtain ⟨hin_238, h⟩ := h
              refine va_zald hx hb hK hP 3 2 rfl rfl hin_238 d_Md_longest_238 ?_
              refine lv_if_eq (tgt := 261) hx hb d_Md_longest_239 (by decide) (fun c_239 => ?_) (fun c_239 => ?_)
              · have h := And.left h c_239
                refine lv_iload_n hx hb d_Md_longest_261 rfl (lv_at hl 1 rfl) ?_
                refine lv_istore_n (lv' := [(2, .int x2_27), (0, .ref a_md), (3, .int x3_28)]) hx hb d_Md_longest_262 rfl hl (by decide) rfl (fun ls hl => ?_)
                refine lv_iinc (v := x3_28 + 1) (lv' := [(3, .int (x3_28 + 1)), (2, .int x2_27), (0, .ref a_md)]) hx hb d_Md_longest_263 hl (k := 2) rfl rfl (by decide) rfl (fun ls hl => ?_)
                refine lv_goto (tgt := 204) hx hb d_Md_longest_266 (by decide) ?_
                exact il _ _ h _ _ hP hD hS _ (lv_sub hl [2, 1, 0] rfl)
              · have h := And.right h c_239
                refine lv_aload_n hx hb d_Md_longest_242 rfl (lv_at hl 0 rfl) ?_
                refine va_get (D := (dC, dI)) (ci := 11) (v := .ref a_md_heights) (C := "LoopInductionModel") (T := F_Md) (N := 40) hx hb hts iC_Md hown hK hP 1 rfl rfl 39 (by decide) fl_91 (fun _ h9 => h9) rfl d_Md_longest_243 ?_
                refine lv_iload_n hx hb d_Md_longest_246 rfl (lv_at hl 2 rfl) ?_
                obtain ⟨hin_247, h⟩ := h
                refine va_iald hx hb hK hP 0 0 rfl rfl hin_247 d_Md_longest_247 ?_
                refine lv_iload_n hx hb d_Md_longest_248 rfl (lv_at hl 1 rfl) ?_
                refine lv_icmp_le (tgt := 261) hx hb d_Md_longest_249 (by decide) (fun c_249 => ?_) (fun c_249 => ?_)
                · have h := And.left h c_249
                  refine lv_iload_n hx hb d_Md_longest_261 rfl (lv_at hl 1 rfl) ?_
                  refine lv_istore_n (lv' := [(2, .int x2_27), (0, .ref a_md), (3, .int x3_28)]) hx hb d_Md_longest_262 rfl hl (by decide) rfl (fun ls hl => ?_)
                  refine lv_iinc (v := x3_28 + 1) (lv' := [(3, .int (x3_28 + 1)), (2, .int x2_27), (0, .ref a_md)]) hx hb d_Md_longest_263 hl (k := 2) rfl rfl (by decide) rfl (fun ls hl => ?_)
                  refine lv_goto (tgt := 204) hx hb d_Md_longest_266 (by decide) ?_
                  exact il _ _ h _ _ hP hD hS _ (lv_sub hl [2, 1, 0] rfl)
                · have h := And.right h c_249
                  refine lv_aload_n hx hb d_Md_longest_252 rfl (lv_at hl 0 rfl) ?_
                  refine va_get (D := (dC, dI)) (ci := 11) (v := .ref a_md_heights) (C := "LoopInductionModel") (T := F_Md) (N := 40) hx hb hts iC_Md hown hK hP 1 rfl rfl 39 (by decide) fl_91 (fun _ h9 => h9) rfl d_Md_longest_253 ?_
                  refine lv_iload_n hx hb d_Md_longest_256 rfl (lv_at hl 2 rfl) ?_
                  obtain ⟨hin_257, h⟩ := h
                  refine va_iald hx hb hK hP 0 0 rfl rfl hin_257 d_Md_longest_257 ?_
                  refine lv_goto (tgt := 262) hx hb d_Md_longest_258 (by decide) ?_
                  refine lv_topi (fun x2_31 ex2_31 => ?_)
                  have h := h x2_31 ex2_31
                  refine lv_istore_n (lv' := [(2, .int x2_31), (0, .ref a_md), (3, .int x3_28)]) hx hb d_Md_longest_262 rfl hl (by decide) rfl (fun ls hl => ?_)
                  refine lv_iinc (v := x3_28 + 1) (lv' := [(3, .int (x3_28 + 1)), (2, .int x2_31), (0, .ref a_md)]) hx hb d_Md_longest_263 hl (k := 2) rfl rfl (by decide) rfl (fun ls hl => ?_)
                  refine lv_goto (tgt := 204) hx hb d_Md_longest_266 (by decide) ?_
                  exact il _ _ h _ _ hP hD hS _ (lv_sub hl [2, 1, 0] rfl)
            · have h := And.right h c_217
              refine lv_aload_n hx hb d_Md_longest_220 rfl (lv_at hl 0 rfl) ?_
              refine va_get (D := (dC, dI)) (ci := 11) (v := .ref a_md_heights) (C := "LoopInductionModel") (T := F_Md) (N := 40) hx hb hts iC_Md hown hK hP 1 rfl rfl 39 (by decide) fl_91 (fun _ h9 => h9) rfl d_Md_longest_221 ?_
              refine lv_iload_n hx hb d_Md_longest_224 rfl (lv_at hl 2 rfl) ?_
              obtain ⟨hin_225, h⟩ := h
              refine va_iald hx hb hK hP 0 0 rfl rfl hin_225 d_Md_longest_225 ?_
              refine lv_if_ge (tgt := 233) hx hb d_Md_longest_226 (by decide) (fun c_226 => ?_) (fun c_226 => ?_)
              · have h := And.left h c_226
                refine lv_aload_n hx hb d_Md_longest_233 rfl (lv_at hl 0 rfl) ?_
                refine va_get (D := (dC, dI)) (ci := 11) (v := .ref a_md_isBegin) (C := "LoopInductionModel") (T := F_Md) (N := 40) hx hb hts iC_Md hown hK hP 1 rfl rfl 30 (by decide) fl_66 (fun _ h9 => h9) rfl d_Md_longest_234 ?_
                refine lv_iload_n hx hb d_Md_longest_237 rfl (lv_at hl 2 rfl) ?_
                obtain ⟨hin_238, h⟩ := h
                refine va_zald hx hb hK hP 3 2 rfl rfl hin_238 d_Md_longest_238 ?_
                refine lv_if_eq (tgt := 261) hx hb d_Md_longest_239 (by decide) (fun c_239 => ?_) (fun c_239 => ?_)
                · have h := And.left h c_239
                  refine lv_iload_n hx hb d_Md_longest_261 rfl (lv_at hl 1 rfl) ?_
                  refine lv_istore_n (lv' := [(2, .int x2_27), (0, .ref a_md), (3, .int x3_28)]) hx hb d_Md_longest_262 rfl hl (by decide) rfl (fun ls hl => ?_)
                  refine lv_iinc (v := x3_28 + 1) (lv' := [(3, .int (x3_28 + 1)), (2, .int x2_27), (0, .ref a_md)]) hx hb d_Md_longest_263 hl (k := 2) rfl rfl (by decide) rfl (fun ls hl => ?_)
                  refine lv_goto (tgt := 204) hx hb d_Md_longest_266 (by decide) ?_
                  exact il _ _ h _ _ hP hD hS _ (lv_sub hl [2, 1, 0] rfl)
                · have h := And.right h c_239
                  refine lv_aload_n hx hb d_Md_longest_242 rfl (lv_at hl 0 rfl) ?_
                  refine va_get (D := (dC, dI)) (ci := 11) (v := .ref a_md_heights) (C := "LoopInductionModel") (T := F_Md) (N := 40) hx hb hts iC_Md hown hK hP 1 rfl rfl 39 (by decide) fl_91 (fun _ h9 => h9) rfl d_Md_longest_243 ?_
                  refine lv_iload_n hx hb d_Md_longest_246 rfl (lv_at hl 2 rfl) ?_
                  obtain ⟨hin_247, h⟩ := h
                  refine va_iald hx hb hK hP 0 0 rfl rfl hin_247 d_Md_longest_247 ?_
                  refine lv_iload_n hx hb d_Md_longest_248 rfl (lv_at hl 1 rfl) ?_
                  refine lv_icmp_le (tgt := 261) hx hb d_Md_longest_249 (by decide) (fun c_249 => ?_) (fun c_249 => ?_)
                  · have h := And.left h c_249
                    refine lv_iload_n hx hb d_Md_longest_261 rfl (lv_at hl 1 rfl) ?_
                    refine lv_istore_n (lv' := [(2, .int x2_27), (0, .ref a_md), (3, .int x3_28)]) hx hb d_Md_longest_262 rfl hl (by decide) rfl (fun ls hl => ?_)
                    refine lv_iinc (v := x3_28 + 1) (lv' := [(3, .int (x3_28 + 1)), (2, .int x2_27), (0, .ref a_md)]) hx hb d_Md_longest_263 hl (k := 2) rfl rfl (by decide) rfl (fun ls hl => ?_)
                    refine lv_goto (tgt := 204) hx hb d_Md_longest_266 (by decide) ?_
                    exact il _ _ h _ _ hP hD hS _ (lv_sub hl [2, 1, 0] rfl)
                  · have h := And.right h c_249
                    refine lv_aload_n hx hb d_Md_longest_252 rfl (lv_at hl 0 rfl) ?_
                    refine va_get (D := (dC, dI)) (ci := 11) (v := .ref a_md_heights) (C := "LoopInductionModel") (T := F_Md) (N := 40) hx hb hts iC_Md hown hK hP 1 rfl rfl 39 (by decide) fl_91 (fun _ h9 => h9) rfl d_Md_longest_253 ?_
                    refine lv_iload_n hx hb d_Md_longest_256 rfl (lv_at hl 2 rfl) ?_
                    obtain ⟨hin_257, h⟩ := h
                    refine va_iald hx hb hK hP 0 0 rfl rfl hin_257 d_Md_longest_257 ?_
                    refine lv_goto (tgt := 262) hx hb d_Md_longest_258 (by decide) ?_
                    refine lv_topi (fun x2_32 ex2_32 => ?_)
                    have h := h x2_32 ex2_32
                    refine lv_istore_n (lv' := [(2, .int x2_32), (0, .ref a_md), (3, .int x3_28)]) hx hb d_Md_longest_262 rfl hl (by decide) rfl (fun ls hl => ?_)
                    refine lv_iinc (v := x3_28 + 1) (lv' := [(3, .int (x3_28 + 1)), (2, .int x2_32), (0, .ref a_md)]) hx hb d_Md_longest_263 hl (k := 2) rfl rfl (by decide) rfl (fun ls hl => ?_)
                    refine lv_goto (tgt := 204) hx hb d_Md_longest_266 (by decide) ?_
                    exact il _ _ h _ _ hP hD hS _ (lv_sub hl [2, 1, 0] rfl)
              · have h := And.right h c_226
                exact hk229 h _ _ hP hD hS _ (lv_sub hl [] rfl)
      obtain ⟨n_, h⟩ := h
      refine L204_q_29 _ ?_ _ ?_ n_ _ _ h _ _ hP hD hS _ (lv_sub hl [2, 1, 0] rfl)
      · intro x2_33 h H locs hP hD hS ls hl
        refine lv_iload_n hx hb d_Md_longest_269 rfl (lv_at hl 0 rfl) ?_
        rw [← hQ]
        have hP9 := hP.sub (ws' := [(a_md, .inr (11, [.ref a_md_tape, .int md_size, .int md_at, .int md_token, .int md_tokenPlace, .int md_number, .int md_sign, .int md_bad, .int md_faultPlace, .int md_place, .ref a_md_acts, .ref a_md_actNumbers, .ref a_md_actCounts, .int md_bank, .int md_unaries, .int md_opens, .ref a_md_pile, .int md_piled, .int md_loop, .ref a_md_begins, .ref a_md_goals, .ref a_md_ranks, .ref a_md_choiceCounts, .ref a_md_whens, .ref a_md_becomes, .ref a_md_guessCounts, .ref a_md_guesses, .ref a_md_unaryCounts, .ref a_md_stack, .ref a_md_nexts, .ref a_md_isBegin, .ref a_md_isGoal, .ref a_md_levels, .ref a_md_queue, .ref a_md_hasGuesses, .int md_keptBits, .ref a_md_rounds, .ref a_md_marked, .ref a_md_other, .ref a_md_heights])), (a_md_nexts, .inl (cI, 24576, .inl md_nexts)), (a_md_isBegin, .inl (cZ, 4096, .inl md_isBegin)), (a_md_isGoal, .inl (cZ, 4096, .inl md_isGoal)), (a_md_levels, .inl (cI, 4096, .inl md_levels)), (a_md_hasGuesses, .inl (cI, 4096, .inl md_hasGuesses)), (a_md_heights, .inl (cI, 4096, .inl md_heights_26))]) [1, 2, 3, 4, 5, 6, 0] rfl
        have hD9 := hD.sub (ws' := [(a_md, .inr (11, [.ref a_md_tape, .int md_size, .int md_at, .int md_token, .int md_tokenPlace, .int md_number, .int md_sign, .int md_bad, .int md_faultPlace, .int md_place, .ref a_md_acts, .ref a_md_actNumbers, .ref a_md_actCounts, .int md_bank, .int md_unaries, .int md_opens, .ref a_md_pile, .int md_piled, .int md_loop, .ref a_md_begins, .ref a_md_goals, .ref a_md_ranks, .ref a_md_choiceCounts, .ref a_md_whens, .ref a_md_becomes, .ref a_md_guessCounts, .ref a_md_guesses, .ref a_md_unaryCounts, .ref a_md_stack, .ref a_md_nexts, .ref a_md_isBegin, .ref a_md_isGoal, .ref a_md_levels, .ref a_md_queue, .ref a_md_hasGuesses, .int md_keptBits, .ref a_md_rounds, .ref a_md_marked, .ref a_md_other, .ref a_md_heights])), (a_md_nexts, .inl (cI, 24576, .inl md_nexts)), (a_md_isBegin, .inl (cZ, 4096, .inl md_isBegin)), (a_md_isGoal, .inl (cZ, 4096, .inl md_isGoal)), (a_md_levels, .inl (cI, 4096, .inl md_levels)), (a_md_hasGuesses, .inl (cI, 4096, .inl md_hasGuesses)), (a_md_heights, .inl (cI, 4096, .inl md_heights_26))]) [1, 2, 3, 4, 5, 6, 0] (by decide) rfl
        exact W.iret (v := x2_33) hx hb hr (fun t ht hW => ⟨⟨x2_33, (md_heights_26), rfl, h, by rw [ht]; exact hP9, va_K.moved hW.alike hK, hD9⟩, hS.F ht⟩) hS.2.2 d_Md_longest_270
      · intro h H locs hP hD hS ls hl
        refine lv_sipush (v := 5000) hx hb d_Md_longest_229 (by decide) ?_
        rw [← hQ]
        have hP9 := hP.sub (ws' := [(a_md, .inr (11, [.ref a_md_tape, .int md_size, .int md_at, .int md_token, .int md_tokenPlace, .int md_number, .int md_sign, .int md_bad, .int md_faultPlace, .int md_place, .ref a_md_acts, .ref a_md_actNumbers, .ref a_md_actCounts, .int md_bank, .int md_unaries, .int md_opens, .ref a_md_pile, .int md_piled, .int md_loop, .ref a_md_begins, .ref a_md_goals, .ref a_md_ranks, .ref a_md_choiceCounts, .ref a_md_whens, .ref a_md_becomes, .ref a_md_guessCounts, .ref a_md_guesses, .ref a_md_unaryCounts, .ref a_md_stack, .ref a_md_nexts, .ref a_md_isBegin, .ref a_md_isGoal, .ref a_md_levels, .ref a_md_queue, .ref a_md_hasGuesses, .int md_keptBits, .ref a_md_rounds, .ref a_md_marked, .ref a_md_other, .ref a_md_heights])), (a_md_nexts, .inl (cI, 24576, .inl md_nexts)), (a_md_isBegin, .inl (cZ, 4096, .inl md_isBegin)), (a_md_isGoal, .inl (cZ, 4096, .inl md_isGoal)), (a_md_levels, .inl (cI, 4096, .inl md_levels)), (a_md_hasGuesses, .inl (cI, 4096, .inl md_hasGuesses)), (a_md_heights, .inl (cI, 4096, .inl md_heights_26))]) [1, 2, 3, 4, 5, 6, 0] rfl
        have hD9 := hD.sub (ws' := [(a_md, .inr (11, [.ref a_md_tape, .int md_size, .int md_at, .int md_token, .int md_tokenPlace, .int md_number, .int md_sign, .int md_bad, .int md_faultPlace, .int md_place, .ref a_md_acts, .ref a_md_actNumbers, .ref a_md_actCounts, .int md_bank, .int md_unaries, .int md_opens, .ref a_md_pile, .int md_piled, .int md_loop, .ref a_md_begins, .ref a_md_goals, .ref a_md_ranks, .ref a_md_choiceCounts, .ref a_md_whens, .ref a_md_becomes, .ref a_md_guessCounts, .ref a_md_guesses, .ref a_md_unaryCounts, .ref a_md_stack, .ref a_md_nexts, .ref a_md_isBegin, .ref a_md_isGoal, .ref a_md_levels, .ref a_md_queue, .ref a_md_hasGuesses, .int md_keptBits, .ref a_md_rounds, .ref a_md_marked, .ref a_md_other, .ref a_md_heights])), (a_md_nexts, .inl (cI, 24576, .inl md_nexts)), (a_md_isBegin, .inl (cZ, 4096, .inl md_isBegin)), (a_md_isGoal, .inl (cZ, 4096, .inl md_isGoal)), (a_md_levels, .inl (cI, 4096, .inl md_levels)), (a_md_hasGuesses, .inl (cI, 4096, .inl md_hasGuesses)), (a_md_heights, .inl (cI, 4096, .inl md_heights_26))]) [1, 2, 3, 4, 5, 6, 0] (by decide) rfl
        exact W.iret (v := 5000) hx hb hr (fun t ht hW => ⟨⟨5000, (md_heights_26), rfl, h, by rw [ht]; exact hP9, va_K.moved hW.alike hK, hD9⟩, hS.F ht⟩) hS.2.2 d_Md_longest_232
    · have h := And.right h c_12
      refine lv_iconst (v := (-1)) hx hb d_Md_longest_15 (by decide) ?_
      rw [← hQ]
      have hP9 := hP.sub (ws' := [(a_md, .inr (11, [.ref a_md_tape, .int md_size, .int md_at, .int md_token, .int md_tokenPlace, .int md_number, .int md_sign, .int md_bad, .int md_faultPlace, .int md_place, .ref a_md_acts, .ref a_md_actNumbers, .ref a_md_actCounts, .int md_bank, .int md_unaries, .int md_opens, .ref a_md_pile, .int md_piled, .int md_loop, .ref a_md_begins, .ref a_md_goals, .ref a_md_ranks, .ref a_md_choiceCounts, .ref a_md_whens, .ref a_md_becomes, .ref a_md_guessCounts, .ref a_md_guesses, .ref a_md_unaryCounts, .ref a_md_stack, .ref a_md_nexts, .ref a_md_isBegin, .ref a_md_isGoal, .ref a_md_levels, .ref a_md_queue, .ref a_md_hasGuesses, .int md_keptBits, .ref a_md_rounds, .ref a_md_marked, .ref a_md_other, .ref a_md_heights])), (a_md_nexts, .inl (cI, 24576, .inl md_nexts)), (a_md_isBegin, .inl (cZ, 4096, .inl md_isBegin)), (a_md_isGoal, .inl (cZ, 4096, .inl md_isGoal)), (a_md_levels, .inl (cI, 4096, .inl md_levels)), (a_md_hasGuesses, .inl (cI, 4096, .inl md_hasGuesses)), (a_md_heights, .inl (cI, 4096, .inl md_heights))]) [1, 2, 3, 4, 5, 6, 0] rfl
      have hD9 := hD.sub (ws' := [(a_md, .inr (11, [.ref a_md_tape, .int md_size, .int md_at, .int md_token, .int md_tokenPlace, .int md_number, .int md_sign, .int md_bad, .int md_faultPlace, .int md_place, .ref a_md_acts, .ref a_md_actNumbers, .ref a_md_actCounts, .int md_bank, .int md_unaries, .int md_opens, .ref a_md_pile, .int md_piled, .int md_loop, .ref a_md_begins, .ref a_md_goals, .ref a_md_ranks, .ref a_md_choiceCounts, .ref a_md_whens, .ref a_md_becomes, .ref a_md_guessCounts, .ref a_md_guesses, .ref a_md_unaryCounts, .ref a_md_stack, .ref a_md_nexts, .ref a_md_isBegin, .ref a_md_isGoal, .ref a_md_levels, .ref a_md_queue, .ref a_md_hasGuesses, .int md_keptBits, .ref a_md_rounds, .ref a_md_marked, .ref a_md_other, .ref a_md_heights])), (a_md_nexts, .inl (cI, 24576, .inl md_nexts)), (a_md_isBegin, .inl (cZ, 4096, .inl md_isBegin)), (a_md_isGoal, .inl (cZ, 4096, .inl md_isGoal)), (a_md_levels, .inl (cI, 4096, .inl md_levels)), (a_md_hasGuesses, .inl (cI, 4096, .inl md_hasGuesses)), (a_md_heights, .inl (cI, 4096, .inl md_heights))]) [1, 2, 3, 4, 5, 6, 0] (by decide) rfl
      exact W.iret (v := (-1)) hx hb hr (fun t ht hW => ⟨⟨(-1), (md_heights), rfl, h, by rw [ht]; exact hP9, va_K.moved hW.alike hK, hD9⟩, hS.F ht⟩) hS.2.2 d_Md_longest_16
