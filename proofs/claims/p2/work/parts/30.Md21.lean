abbrev b_Md_markRuns : ByteArray := prog_13_method_48_code
abbrev y_Md_markRuns : MethodName := ⟨"LoopInductionModel", "markRuns", "()I"⟩
abbrev w_Md_markRuns : List Cond := .code y_Md_markRuns b_Md_markRuns 6 (some .int) :: allW
theorem pn_Md_markRuns : y_Md_markRuns.cls ≠ "java/lang/invoke/MethodHandle" ∧ y_Md_markRuns.cls ≠ "java/lang/invoke/VarHandle" ∧ (parseMethodDescriptor y_Md_markRuns.desc).map (fun d => d.parameters.length) = some 0 := by decide +kernel
theorem pd_Md_markRuns : y_Md_markRuns.cls = "LoopInductionModel" ∧ y_Md_markRuns.cls ≠ "java/lang/invoke/MethodHandle" ∧ y_Md_markRuns.cls ≠ "java/lang/invoke/VarHandle" ∧ (parseMethodDescriptor y_Md_markRuns.desc).map (fun d => d.parameters.length) = some 0 := by decide +kernel
theorem d_Md_markRuns_0 : decode b_Md_markRuns 0 = .ok (.iconst (-1), 1) := by decide +kernel
theorem d_Md_markRuns_1 : decode b_Md_markRuns 1 = .ok (.istore_n 1, 1) := by decide +kernel
theorem d_Md_markRuns_2 : decode b_Md_markRuns 2 = .ok (.iconst 0, 1) := by decide +kernel
theorem d_Md_markRuns_3 : decode b_Md_markRuns 3 = .ok (.istore_n 2, 1) := by decide +kernel
theorem d_Md_markRuns_4 : decode b_Md_markRuns 4 = .ok (.iload_n 2, 1) := by decide +kernel
theorem d_Md_markRuns_5 : decode b_Md_markRuns 5 = .ok (.sipush 4096, 3) := by decide +kernel
theorem d_Md_markRuns_8 : decode b_Md_markRuns 8 = .ok (.if_icmp .ge 52, 3) := by decide +kernel
theorem d_Md_markRuns_11 : decode b_Md_markRuns 11 = .ok (.aload_n 0, 1) := by decide +kernel
theorem d_Md_markRuns_12 : decode b_Md_markRuns 12 = .ok (.getfield 73, 3) := by decide +kernel
theorem d_Md_markRuns_15 : decode b_Md_markRuns 15 = .ok (.iload_n 2, 1) := by decide +kernel
theorem d_Md_markRuns_16 : decode b_Md_markRuns 16 = .ok (.iaload, 1) := by decide +kernel
theorem d_Md_markRuns_17 : decode b_Md_markRuns 17 = .ok (.ifCond .lt 35, 3) := by decide +kernel
theorem d_Md_markRuns_20 : decode b_Md_markRuns 20 = .ok (.aload_n 0, 1) := by decide +kernel
theorem d_Md_markRuns_21 : decode b_Md_markRuns 21 = .ok (.getfield 70, 3) := by decide +kernel
theorem d_Md_markRuns_24 : decode b_Md_markRuns 24 = .ok (.iload_n 2, 1) := by decide +kernel
theorem d_Md_markRuns_25 : decode b_Md_markRuns 25 = .ok (.baload, 1) := by decide +kernel
theorem d_Md_markRuns_26 : decode b_Md_markRuns 26 = .ok (.ifCond .ne 26, 3) := by decide +kernel
theorem d_Md_markRuns_29 : decode b_Md_markRuns 29 = .ok (.iload_n 1, 1) := by decide +kernel
theorem d_Md_markRuns_30 : decode b_Md_markRuns 30 = .ok (.ifCond .lt 13, 3) := by decide +kernel
theorem d_Md_markRuns_33 : decode b_Md_markRuns 33 = .ok (.aload_n 0, 1) := by decide +kernel
theorem d_Md_markRuns_34 : decode b_Md_markRuns 34 = .ok (.getfield 73, 3) := by decide +kernel
theorem d_Md_markRuns_37 : decode b_Md_markRuns 37 = .ok (.iload_n 2, 1) := by decide +kernel
theorem d_Md_markRuns_38 : decode b_Md_markRuns 38 = .ok (.iaload, 1) := by decide +kernel
theorem d_Md_markRuns_39 : decode b_Md_markRuns 39 = .ok (.iload_n 1, 1) := by decide +kernel
theorem d_Md_markRuns_40 : decode b_Md_markRuns 40 = .ok (.if_icmp .ge 12, 3) := by decide +kernel
theorem d_Md_markRuns_43 : decode b_Md_markRuns 43 = .ok (.aload_n 0, 1) := by decide +kernel
theorem d_Md_markRuns_44 : decode b_Md_markRuns 44 = .ok (.getfield 73, 3) := by decide +kernel
theorem d_Md_markRuns_47 : decode b_Md_markRuns 47 = .ok (.iload_n 2, 1) := by decide +kernel
theorem d_Md_markRuns_48 : decode b_Md_markRuns 48 = .ok (.iaload, 1) := by decide +kernel
theorem d_Md_markRuns_49 : decode b_Md_markRuns 49 = .ok (.goto 4, 3) := by decide +kernel
theorem d_Md_markRuns_52 : decode b_Md_markRuns 52 = .ok (.iload_n 1, 1) := by decide +kernel
theorem d_Md_markRuns_53 : decode b_Md_markRuns 53 = .ok (.istore_n 1, 1) := by decide +kernel
theorem d_Md_markRuns_54 : decode b_Md_markRuns 54 = .ok (.iinc 2 1, 3) := by decide +kernel
theorem d_Md_markRuns_57 : decode b_Md_markRuns 57 = .ok (.goto (-53), 3) := by decide +kernel
theorem d_Md_markRuns_60 : decode b_Md_markRuns 60 = .ok (.iconst 0, 1) := by decide +kernel
theorem d_Md_markRuns_61 : decode b_Md_markRuns 61 = .ok (.istore_n 2, 1) := by decide +kernel
theorem d_Md_markRuns_62 : decode b_Md_markRuns 62 = .ok (.iload_n 2, 1) := by decide +kernel
theorem d_Md_markRuns_63 : decode b_Md_markRuns 63 = .ok (.sipush 4096, 3) := by decide +kernel
theorem d_Md_markRuns_66 : decode b_Md_markRuns 66 = .ok (.if_icmp .ge 43, 3) := by decide +kernel
theorem d_Md_markRuns_69 : decode b_Md_markRuns 69 = .ok (.aload_n 0, 1) := by decide +kernel
theorem d_Md_markRuns_70 : decode b_Md_markRuns 70 = .ok (.getfield 85, 3) := by decide +kernel
theorem d_Md_markRuns_73 : decode b_Md_markRuns 73 = .ok (.iload_n 2, 1) := by decide +kernel
theorem d_Md_markRuns_74 : decode b_Md_markRuns 74 = .ok (.iload_n 1, 1) := by decide +kernel
theorem d_Md_markRuns_75 : decode b_Md_markRuns 75 = .ok (.ifCond .lt 26, 3) := by decide +kernel
theorem d_Md_markRuns_78 : decode b_Md_markRuns 78 = .ok (.aload_n 0, 1) := by decide +kernel
theorem d_Md_markRuns_79 : decode b_Md_markRuns 79 = .ok (.getfield 73, 3) := by decide +kernel
theorem d_Md_markRuns_82 : decode b_Md_markRuns 82 = .ok (.iload_n 2, 1) := by decide +kernel
theorem d_Md_markRuns_83 : decode b_Md_markRuns 83 = .ok (.iaload, 1) := by decide +kernel
theorem d_Md_markRuns_84 : decode b_Md_markRuns 84 = .ok (.iload_n 1, 1) := by decide +kernel
theorem d_Md_markRuns_85 : decode b_Md_markRuns 85 = .ok (.if_icmp .ne 16, 3) := by decide +kernel
theorem d_Md_markRuns_88 : decode b_Md_markRuns 88 = .ok (.aload_n 0, 1) := by decide +kernel
theorem d_Md_markRuns_89 : decode b_Md_markRuns 89 = .ok (.getfield 70, 3) := by decide +kernel
theorem d_Md_markRuns_92 : decode b_Md_markRuns 92 = .ok (.iload_n 2, 1) := by decide +kernel
theorem d_Md_markRuns_93 : decode b_Md_markRuns 93 = .ok (.baload, 1) := by decide +kernel
theorem d_Md_markRuns_94 : decode b_Md_markRuns 94 = .ok (.ifCond .ne 7, 3) := by decide +kernel
theorem d_Md_markRuns_97 : decode b_Md_markRuns 97 = .ok (.iconst 1, 1) := by decide +kernel
theorem d_Md_markRuns_98 : decode b_Md_markRuns 98 = .ok (.goto 4, 3) := by decide +kernel
theorem d_Md_markRuns_101 : decode b_Md_markRuns 101 = .ok (.iconst 0, 1) := by decide +kernel
theorem d_Md_markRuns_102 : decode b_Md_markRuns 102 = .ok (.bastore, 1) := by decide +kernel
theorem d_Md_markRuns_103 : decode b_Md_markRuns 103 = .ok (.iinc 2 1, 3) := by decide +kernel
theorem d_Md_markRuns_106 : decode b_Md_markRuns 106 = .ok (.goto (-44), 3) := by decide +kernel
theorem d_Md_markRuns_109 : decode b_Md_markRuns 109 = .ok (.iload_n 1, 1) := by decide +kernel
theorem d_Md_markRuns_110 : decode b_Md_markRuns 110 = .ok (.iconst 1, 1) := by decide +kernel
theorem d_Md_markRuns_111 : decode b_Md_markRuns 111 = .ok (.isub, 1) := by decide +kernel
theorem d_Md_markRuns_112 : decode b_Md_markRuns 112 = .ok (.istore_n 2, 1) := by decide +kernel
theorem d_Md_markRuns_113 : decode b_Md_markRuns 113 = .ok (.iload_n 2, 1) := by decide +kernel
theorem d_Md_markRuns_114 : decode b_Md_markRuns 114 = .ok (.ifCond .lt 112, 3) := by decide +kernel
theorem d_Md_markRuns_117 : decode b_Md_markRuns 117 = .ok (.iconst 0, 1) := by decide +kernel
theorem d_Md_markRuns_118 : decode b_Md_markRuns 118 = .ok (.istore_n 3, 1) := by decide +kernel
theorem d_Md_markRuns_119 : decode b_Md_markRuns 119 = .ok (.iload_n 3, 1) := by decide +kernel
theorem d_Md_markRuns_120 : decode b_Md_markRuns 120 = .ok (.sipush 4096, 3) := by decide +kernel
theorem d_Md_markRuns_123 : decode b_Md_markRuns 123 = .ok (.if_icmp .ge 97, 3) := by decide +kernel
theorem d_Md_markRuns_126 : decode b_Md_markRuns 126 = .ok (.iconst 0, 1) := by decide +kernel
theorem d_Md_markRuns_127 : decode b_Md_markRuns 127 = .ok (.istore 4, 2) := by decide +kernel
theorem d_Md_markRuns_129 : decode b_Md_markRuns 129 = .ok (.iload 4, 2) := by decide +kernel
theorem d_Md_markRuns_131 : decode b_Md_markRuns 131 = .ok (.bipush 6, 2) := by decide +kernel
theorem d_Md_markRuns_133 : decode b_Md_markRuns 133 = .ok (.if_icmp .ge 81, 3) := by decide +kernel
theorem d_Md_markRuns_136 : decode b_Md_markRuns 136 = .ok (.aload_n 0, 1) := by decide +kernel
theorem d_Md_markRuns_137 : decode b_Md_markRuns 137 = .ok (.getfield 73, 3) := by decide +kernel
theorem d_Md_markRuns_140 : decode b_Md_markRuns 140 = .ok (.iload_n 3, 1) := by decide +kernel
theorem d_Md_markRuns_141 : decode b_Md_markRuns 141 = .ok (.iaload, 1) := by decide +kernel
theorem d_Md_markRuns_142 : decode b_Md_markRuns 142 = .ok (.iload_n 2, 1) := by decide +kernel
theorem d_Md_markRuns_143 : decode b_Md_markRuns 143 = .ok (.if_icmp .ne 71, 3) := by decide +kernel
theorem d_Md_markRuns_146 : decode b_Md_markRuns 146 = .ok (.aload_n 0, 1) := by decide +kernel
theorem d_Md_markRuns_147 : decode b_Md_markRuns 147 = .ok (.getfield 63, 3) := by decide +kernel
theorem d_Md_markRuns_150 : decode b_Md_markRuns 150 = .ok (.bipush 6, 2) := by decide +kernel
theorem d_Md_markRuns_152 : decode b_Md_markRuns 152 = .ok (.iload_n 3, 1) := by decide +kernel
theorem d_Md_markRuns_153 : decode b_Md_markRuns 153 = .ok (.imul, 1) := by decide +kernel
theorem d_Md_markRuns_154 : decode b_Md_markRuns 154 = .ok (.iload 4, 2) := by decide +kernel
theorem d_Md_markRuns_156 : decode b_Md_markRuns 156 = .ok (.iadd, 1) := by decide +kernel
theorem d_Md_markRuns_157 : decode b_Md_markRuns 157 = .ok (.iaload, 1) := by decide +kernel
theorem d_Md_markRuns_158 : decode b_Md_markRuns 158 = .ok (.istore 5, 2) := by decide +kernel
theorem d_Md_markRuns_160 : decode b_Md_markRuns 160 = .ok (.aload_n 0, 1) := by decide +kernel
theorem d_Md_markRuns_161 : decode b_Md_markRuns 161 = .ok (.getfield 85, 3) := by decide +kernel
theorem d_Md_markRuns_164 : decode b_Md_markRuns 164 = .ok (.iload_n 3, 1) := by decide +kernel
theorem d_Md_markRuns_165 : decode b_Md_markRuns 165 = .ok (.aload_n 0, 1) := by decide +kernel
theorem d_Md_markRuns_166 : decode b_Md_markRuns 166 = .ok (.getfield 85, 3) := by decide +kernel
theorem d_Md_markRuns_169 : decode b_Md_markRuns 169 = .ok (.iload_n 3, 1) := by decide +kernel
theorem d_Md_markRuns_170 : decode b_Md_markRuns 170 = .ok (.baload, 1) := by decide +kernel
theorem d_Md_markRuns_171 : decode b_Md_markRuns 171 = .ok (.ifCond .ne 31, 3) := by decide +kernel
theorem d_Md_markRuns_174 : decode b_Md_markRuns 174 = .ok (.iload 5, 2) := by decide +kernel
theorem d_Md_markRuns_176 : decode b_Md_markRuns 176 = .ok (.ifCond .lt 30, 3) := by decide +kernel
theorem d_Md_markRuns_179 : decode b_Md_markRuns 179 = .ok (.aload_n 0, 1) := by decide +kernel
theorem d_Md_markRuns_180 : decode b_Md_markRuns 180 = .ok (.getfield 73, 3) := by decide +kernel
theorem d_Md_markRuns_183 : decode b_Md_markRuns 183 = .ok (.iload 5, 2) := by decide +kernel
theorem d_Md_markRuns_185 : decode b_Md_markRuns 185 = .ok (.iaload, 1) := by decide +kernel
theorem d_Md_markRuns_186 : decode b_Md_markRuns 186 = .ok (.iload_n 2, 1) := by decide +kernel
theorem d_Md_markRuns_187 : decode b_Md_markRuns 187 = .ok (.iconst 1, 1) := by decide +kernel
theorem d_Md_markRuns_188 : decode b_Md_markRuns 188 = .ok (.iadd, 1) := by decide +kernel
theorem d_Md_markRuns_189 : decode b_Md_markRuns 189 = .ok (.if_icmp .ne 17, 3) := by decide +kernel
theorem d_Md_markRuns_192 : decode b_Md_markRuns 192 = .ok (.aload_n 0, 1) := by decide +kernel
theorem d_Md_markRuns_193 : decode b_Md_markRuns 193 = .ok (.getfield 85, 3) := by decide +kernel
theorem d_Md_markRuns_196 : decode b_Md_markRuns 196 = .ok (.iload 5, 2) := by decide +kernel
theorem d_Md_markRuns_198 : decode b_Md_markRuns 198 = .ok (.baload, 1) := by decide +kernel
theorem d_Md_markRuns_199 : decode b_Md_markRuns 199 = .ok (.ifCond .eq 7, 3) := by decide +kernel
theorem d_Md_markRuns_202 : decode b_Md_markRuns 202 = .ok (.iconst 1, 1) := by decide +kernel
theorem d_Md_markRuns_203 : decode b_Md_markRuns 203 = .ok (.goto 4, 3) := by decide +kernel
theorem d_Md_markRuns_206 : decode b_Md_markRuns 206 = .ok (.iconst 0, 1) := by decide +kernel
theorem d_Md_markRuns_207 : decode b_Md_markRuns 207 = .ok (.bastore, 1) := by decide +kernel
theorem d_Md_markRuns_208 : decode b_Md_markRuns 208 = .ok (.iinc 4 1, 3) := by decide +kernel
theorem d_Md_markRuns_211 : decode b_Md_markRuns 211 = .ok (.goto (-82), 3) := by decide +kernel
theorem d_Md_markRuns_214 : decode b_Md_markRuns 214 = .ok (.iinc 3 1, 3) := by decide +kernel
theorem d_Md_markRuns_217 : decode b_Md_markRuns 217 = .ok (.goto (-98), 3) := by decide +kernel
theorem d_Md_markRuns_220 : decode b_Md_markRuns 220 = .ok (.iinc 2 (-1), 3) := by decide +kernel
theorem d_Md_markRuns_223 : decode b_Md_markRuns 223 = .ok (.goto (-110), 3) := by decide +kernel
theorem d_Md_markRuns_226 : decode b_Md_markRuns 226 = .ok (.iload_n 1, 1) := by decide +kernel
theorem d_Md_markRuns_227 : decode b_Md_markRuns 227 = .ok (.ireturn, 1) := by decide +kernel
def wp_Md_markRuns_L4 (md_isGoal : Nat → Int32) (md_levels : Nat → Int32) (k60 : Int32 → Prop) : Nat → Int32 → Int32 → Prop
  | 0, _, _ => False
  | n + 1, x1, x2 =>
    (((4096 : Int32) ≤ (x2 : Int32) → k60 x1) ∧ (¬ (4096 : Int32) ≤ (x2 : Int32) → (vp_in x2 4096 ∧ (((md_levels (x2 : Int32).toNatClampNeg : Int32) < 0 → wp_Md_markRuns_L4 md_isGoal md_levels k60 n x1 (x2 + 1)) ∧ (¬ (md_levels (x2 : Int32).toNatClampNeg : Int32) < 0 → (vp_in x2 4096 ∧ ((¬ (md_isGoal (x2 : Int32).toNatClampNeg : Int32) = 0 → wp_Md_markRuns_L4 md_isGoal md_levels k60 n x1 (x2 + 1)) ∧ ((md_isGoal (x2 : Int32).toNatClampNeg : Int32) = 0 → (((x1 : Int32) < 0 → (vp_in x2 4096 ∧ (∀ x1_1 : Int32, x1_1 = (md_levels (x2 : Int32).toNatClampNeg) → wp_Md_markRuns_L4 md_isGoal md_levels k60 n x1_1 (x2 + 1)))) ∧ (¬ (x1 : Int32) < 0 → (vp_in x2 4096 ∧ (((x1 : Int32) ≤ (md_levels (x2 : Int32).toNatClampNeg : Int32) → wp_Md_markRuns_L4 md_isGoal md_levels k60 n x1 (x2 + 1)) ∧ (¬ (x1 : Int32) ≤ (md_levels (x2 : Int32).toNatClampNeg : Int32) → (vp_in x2 4096 ∧ (∀ x1_2 : Int32, x1_2 = (md_levels (x2 : Int32).toNatClampNeg) → wp_Md_markRuns_L4 md_isGoal md_levels k60 n x1_2 (x2 + 1))))))))))))))))
def wp_Md_markRuns_L62 (x1 : Int32) (md_isGoal : Nat → Int32) (md_levels : Nat → Int32) (k109 : (Nat → Int32) → Prop) : Nat → Int32 → (Nat → Int32) → Prop
  | 0, _, _ => False
  | n + 1, x2, md_marked =>
    (((4096 : Int32) ≤ (x2 : Int32) → k109 md_marked) ∧ (¬ (4096 : Int32) ≤ (x2 : Int32) → (((x1 : Int32) < 0 → (vp_in x2 4096 ∧ wp_Md_markRuns_L62 x1 md_isGoal md_levels k109 n (x2 + 1) (upd md_marked (x2 : Int32).toNatClampNeg (vp_nar .boolean 0)))) ∧ (¬ (x1 : Int32) < 0 → (vp_in x2 4096 ∧ ((¬ (md_levels (x2 : Int32).toNatClampNeg : Int32) = (x1 : Int32) → (vp_in x2 4096 ∧ wp_Md_markRuns_L62 x1 md_isGoal md_levels k109 n (x2 + 1) (upd md_marked (x2 : Int32).toNatClampNeg (vp_nar .boolean 0)))) ∧ ((md_levels (x2 : Int32).toNatClampNeg : Int32) = (x1 : Int32) → (vp_in x2 4096 ∧ ((¬ (md_isGoal (x2 : Int32).toNatClampNeg : Int32) = 0 → (vp_in x2 4096 ∧ wp_Md_markRuns_L62 x1 md_isGoal md_levels k109 n (x2 + 1) (upd md_marked (x2 : Int32).toNatClampNeg (vp_nar .boolean 0)))) ∧ ((md_isGoal (x2 : Int32).toNatClampNeg : Int32) = 0 → (vp_in x2 4096 ∧ wp_Md_markRuns_L62 x1 md_isGoal md_levels k109 n (x2 + 1) (upd md_marked (x2 : Int32).toNatClampNeg (vp_nar .boolean 1)))))))))))))
def wp_Md_markRuns_L129 (x1 : Int32) (x2 : Int32) (x3 : Int32) (md_nexts : Nat → Int32) (md_levels : Nat → Int32) (k214 : (Nat → Int32) → Prop) : Nat → Int32 → (Nat → Int32) → Prop
  | 0, _, _ => False
  | n + 1, x4, md_marked =>
    (((6 : Int32) ≤ (x4 : Int32) → k214 md_marked) ∧ (¬ (6 : Int32) ≤ (x4 : Int32) → (vp_in x3 4096 ∧ ((¬ (md_levels (x3 : Int32).toNatClampNeg : Int32) = (x2 : Int32) → k214 md_marked) ∧ ((md_levels (x3 : Int32).toNatClampNeg : Int32) = (x2 : Int32) → (vp_in ((6 * x3) + x4) 24576 ∧ (∀ x5_1 : Int32, x5_1 = (md_nexts ((6 * x3) + x4 : Int32).toNatClampNeg) → (vp_in x3 4096 ∧ ((¬ (md_marked (x3 : Int32).toNatClampNeg : Int32) = 0 → (vp_in x3 4096 ∧ wp_Md_markRuns_L129 x1 x2 x3 md_nexts md_levels k214 n (x4 + 1) (upd md_marked (x3 : Int32).toNatClampNeg (vp_nar .boolean 1)))) ∧ ((md_marked (x3 : Int32).toNatClampNeg : Int32) = 0 → (((x5_1 : Int32) < 0 → (vp_in x3 4096 ∧ wp_Md_markRuns_L129 x1 x2 x3 md_nexts md_levels k214 n (x4 + 1) (upd md_marked (x3 : Int32).toNatClampNeg (vp_nar .boolean 0)))) ∧ (¬ (x5_1 : Int32) < 0 → (vp_in x5_1 4096 ∧ ((¬ (md_levels (x5_1 : Int32).toNatClampNeg : Int32) = (x2 + 1 : Int32) → (vp_in x3 4096 ∧ wp_Md_markRuns_L129 x1 x2 x3 md_nexts md_levels k214 n (x4 + 1) (upd md_marked (x3 : Int32).toNatClampNeg (vp_nar .boolean 0)))) ∧ ((md_levels (x5_1 : Int32).toNatClampNeg : Int32) = (x2 + 1 : Int32) → (vp_in x5_1 4096 ∧ (((md_marked (x5_1 : Int32).toNatClampNeg : Int32) = 0 → (vp_in x3 4096 ∧ wp_Md_markRuns_L129 x1 x2 x3 md_nexts md_levels k214 n (x4 + 1) (upd md_marked (x3 : Int32).toNatClampNeg (vp_nar .boolean 0)))) ∧ (¬ (md_marked (x5_1 : Int32).toNatClampNeg : Int32) = 0 → (vp_in x3 4096 ∧ wp_Md_markRuns_L129 x1 x2 x3 md_nexts md_levels k214 n (x4 + 1) (upd md_marked (x3 : Int32).toNatClampNeg (vp_nar .boolean 1)))))))))))))))))))))
def wp_Md_markRuns_L119 (x1 : Int32) (x2 : Int32) (md_nexts : Nat → Int32) (md_levels : Nat → Int32) (k220 : (Nat → Int32) → Prop) : Nat → Int32 → (Nat → Int32) → Prop
  | 0, _, _ => False
  | n + 1, x3, md_marked =>
    (((4096 : Int32) ≤ (x3 : Int32) → k220 md_marked) ∧ (¬ (4096 : Int32) ≤ (x3 : Int32) → ∃ n_3, wp_Md_markRuns_L129 x1 x2 x3 md_nexts md_levels (fun md_marked_2 => wp_Md_markRuns_L119 x1 x2 md_nexts md_levels k220 n (x3 + 1) md_marked_2) n_3 0 md_marked))
def wp_Md_markRuns_L113 (x1 : Int32) (md_nexts : Nat → Int32) (md_levels : Nat → Int32) (k226 : (Nat → Int32) → Prop) : Nat → Int32 → (Nat → Int32) → Prop
  | 0, _, _ => False
  | n + 1, x2, md_marked =>
    (((x2 : Int32) < 0 → k226 md_marked) ∧ (¬ (x2 : Int32) < 0 → ∃ n_5, wp_Md_markRuns_L119 x1 x2 md_nexts md_levels (fun md_marked_4 => wp_Md_markRuns_L113 x1 md_nexts md_levels k226 n (x2 + (-1)) md_marked_4) n_5 0 md_marked))
def wp_Md_markRuns (md_nexts : Nat → Int32) (md_isGoal : Nat → Int32) (md_levels : Nat → Int32) (md_marked : Nat → Int32) (post : Int32 → (Nat → Int32) → Prop) : Prop :=
  ∃ n_9, wp_Md_markRuns_L4 md_isGoal md_levels (fun x1_3 => ∃ n_8, wp_Md_markRuns_L62 x1_3 md_isGoal md_levels (fun md_marked_4 => (∀ x2_5 : Int32, x2_5 = (x1_3 - 1) → ∃ n_7, wp_Md_markRuns_L113 x1_3 md_nexts md_levels (fun md_marked_6 => post x1_3 md_marked_6) n_7 x2_5 md_marked_4)) n_8 0 md_marked) n_9 (-1) 0
set_option maxHeartbeats 4000000 in
set_option maxRecDepth 100000 in
theorem c_Md_markRuns (l : Launch) (dC : Nat → ClassId) (dI : Nat → Nat → Nat) (cI cB cZ : ClassId) (adK adV : Nat → Nat) (sz : Nat) (a_md a_md_tape a_md_acts a_md_actNumbers a_md_actCounts a_md_pile a_md_begins a_md_goals a_md_ranks a_md_choiceCounts a_md_whens a_md_becomes a_md_guessCounts a_md_guesses a_md_unaryCounts a_md_stack a_md_nexts a_md_isBegin a_md_isGoal a_md_levels a_md_queue a_md_hasGuesses a_md_rounds a_md_marked a_md_other a_md_heights : Nat) (md_size : Int32) (md_at : Int32) (md_token : Int32) (md_tokenPlace : Int32) (md_number : Int32) (md_sign : Int32) (md_bad : Int32) (md_faultPlace : Int32) (md_place : Int32) (md_bank : Int32) (md_unaries : Int32) (md_opens : Int32) (md_piled : Int32) (md_loop : Int32) (md_keptBits : Int32) (md_nexts : Nat → Int32) (md_isGoal : Nat → Int32) (md_levels : Nat → Int32) (md_marked : Nat → Int32) (post : Int32 → (Nat → Int32) → Prop) (h : wp_Md_markRuns md_nexts md_isGoal md_levels md_marked post) : Met l y_Md_markRuns w_Md_markRuns ({ frames := 0, cells := 0, slots := 0, locals := 0 }) (pc_ (dC, dI) [(cI, .int), (cB, .byte), (cZ, .boolean)] [(a_md, .inr (11, [.ref a_md_tape, .int md_size, .int md_at, .int md_token, .int md_tokenPlace, .int md_number, .int md_sign, .int md_bad, .int md_faultPlace, .int md_place, .ref a_md_acts, .ref a_md_actNumbers, .ref a_md_actCounts, .int md_bank, .int md_unaries, .int md_opens, .ref a_md_pile, .int md_piled, .int md_loop, .ref a_md_begins, .ref a_md_goals, .ref a_md_ranks, .ref a_md_choiceCounts, .ref a_md_whens, .ref a_md_becomes, .ref a_md_guessCounts, .ref a_md_guesses, .ref a_md_unaryCounts, .ref a_md_stack, .ref a_md_nexts, .ref a_md_isBegin, .ref a_md_isGoal, .ref a_md_levels, .ref a_md_queue, .ref a_md_hasGuesses, .int md_keptBits, .ref a_md_rounds, .ref a_md_marked, .ref a_md_other, .ref a_md_heights])), (a_md_nexts, .inl (cI, 24576, .inl md_nexts)), (a_md_isGoal, .inl (cZ, 4096, .inl md_isGoal)), (a_md_levels, .inl (cI, 4096, .inl md_levels)), (a_md_marked, .inl (cZ, 4096, .inl md_marked))] sz adK adV [.ref a_md]) (va_Qi (fun (r : Int32) (u : (Nat → Int32)) => post r u) (fun (u : (Nat → Int32)) t => bw_ (dC, dI) [(cI, .int), (cB, .byte), (cZ, .boolean)] (va_A [(a_md, .inr (11, [.ref a_md_tape, .int md_size, .int md_at, .int md_token, .int md_tokenPlace, .int md_number, .int md_sign, .int md_bad, .int md_faultPlace, .int md_place, .ref a_md_acts, .ref a_md_actNumbers, .ref a_md_actCounts, .int md_bank, .int md_unaries, .int md_opens, .ref a_md_pile, .int md_piled, .int md_loop, .ref a_md_begins, .ref a_md_goals, .ref a_md_ranks, .ref a_md_choiceCounts, .ref a_md_whens, .ref a_md_becomes, .ref a_md_guessCounts, .ref a_md_guesses, .ref a_md_unaryCounts, .ref a_md_stack, .ref a_md_nexts, .ref a_md_isBegin, .ref a_md_isGoal, .ref a_md_levels, .ref a_md_queue, .ref a_md_hasGuesses, .int md_keptBits, .ref a_md_rounds, .ref a_md_marked, .ref a_md_other, .ref a_md_heights])), (a_md_nexts, .inl (cI, 24576, .inl md_nexts)), (a_md_isGoal, .inl (cZ, 4096, .inl md_isGoal)), (a_md_levels, .inl (cI, 4096, .inl md_levels)), (a_md_marked, .inl (cZ, 4096, .inl md_marked))] sz) [(a_md, .inr (11, [.ref a_md_tape, .int md_size, .int md_at, .int md_token, .int md_tokenPlace, .int md_number, .int md_sign, .int md_bad, .int md_faultPlace, .int md_place, .ref a_md_acts, .ref a_md_actNumbers, .ref a_md_actCounts, .int md_bank, .int md_unaries, .int md_opens, .ref a_md_pile, .int md_piled, .int md_loop, .ref a_md_begins, .ref a_md_goals, .ref a_md_ranks, .ref a_md_choiceCounts, .ref a_md_whens, .ref a_md_becomes, .ref a_md_guessCounts, .ref a_md_guesses, .ref a_md_unaryCounts, .ref a_md_stack, .ref a_md_nexts, .ref a_md_isBegin, .ref a_md_isGoal, .ref a_md_levels, .ref a_md_queue, .ref a_md_hasGuesses, .int md_keptBits, .ref a_md_rounds, .ref a_md_marked, .ref a_md_other, .ref a_md_heights])), (a_md_nexts, .inl (cI, 24576, .inl md_nexts)), (a_md_isGoal, .inl (cZ, 4096, .inl md_isGoal)), (a_md_levels, .inl (cI, 4096, .inl md_levels)), (a_md_marked, .inl (cZ, 4096, .inl u))] t) (va_A [(a_md, .inr (11, [.ref a_md_tape, .int md_size, .int md_at, .int md_token, .int md_tokenPlace, .int md_number, .int md_sign, .int md_bad, .int md_faultPlace, .int md_place, .ref a_md_acts, .ref a_md_actNumbers, .ref a_md_actCounts, .int md_bank, .int md_unaries, .int md_opens, .ref a_md_pile, .int md_piled, .int md_loop, .ref a_md_begins, .ref a_md_goals, .ref a_md_ranks, .ref a_md_choiceCounts, .ref a_md_whens, .ref a_md_becomes, .ref a_md_guessCounts, .ref a_md_guesses, .ref a_md_unaryCounts, .ref a_md_stack, .ref a_md_nexts, .ref a_md_isBegin, .ref a_md_isGoal, .ref a_md_levels, .ref a_md_queue, .ref a_md_hasGuesses, .int md_keptBits, .ref a_md_rounds, .ref a_md_marked, .ref a_md_other, .ref a_md_heights])), (a_md_nexts, .inl (cI, 24576, .inl md_nexts)), (a_md_isGoal, .inl (cZ, 4096, .inl md_isGoal)), (a_md_levels, .inl (cI, 4096, .inl md_levels)), (a_md_marked, .inl (cZ, 4096, .inl md_marked))] sz)) 0 0 (va_A [(a_md, .inr (11, [.ref a_md_tape, .int md_size, .int md_at, .int md_token, .int md_tokenPlace, .int md_number, .int md_sign, .int md_bad, .int md_faultPlace, .int md_place, .ref a_md_acts, .ref a_md_actNumbers, .ref a_md_actCounts, .int md_bank, .int md_unaries, .int md_opens, .ref a_md_pile, .int md_piled, .int md_loop, .ref a_md_begins, .ref a_md_goals, .ref a_md_ranks, .ref a_md_choiceCounts, .ref a_md_whens, .ref a_md_becomes, .ref a_md_guessCounts, .ref a_md_guesses, .ref a_md_unaryCounts, .ref a_md_stack, .ref a_md_nexts, .ref a_md_isBegin, .ref a_md_isGoal, .ref a_md_levels, .ref a_md_queue, .ref a_md_hasGuesses, .int md_keptBits, .ref a_md_rounds, .ref a_md_marked, .ref a_md_other, .ref a_md_heights])), (a_md_nexts, .inl (cI, 24576, .inl md_nexts)), (a_md_isGoal, .inl (cZ, 4096, .inl md_isGoal)), (a_md_levels, .inl (cI, 4096, .inl md_levels)), (a_md_marked, .inl (cZ, 4096, .inl md_marked))] sz) := by
  refine Met.ofW (cc := b_Md_markRuns) (maxL := 6) (ret := (some .int)) (by decide) rfl ?_
  intro p e s m args below meth c s₁ B hml hv
  obtain ⟨rfl, hsz, hP, hK, hD0, hN, hT⟩ := hv
  have hx := B.exec
  have hb := B.bytes
  have hr := B.returns
  have hts := atoms_spec (ws := w_Md_markRuns) B.pre
  have hown : s.vm.findClass "LoopInductionModel" = some m.cls := findClass_of_methodNamed B.named
  have hlocks := B.notSynchronized
  subst hsz
  have hD := hD0.self (sz := s.heap.size)
  generalize hAe : va_A [(a_md, .inr (11, [.ref a_md_tape, .int md_size, .int md_at, .int md_token, .int md_tokenPlace, .int md_number, .int md_sign, .int md_bad, .int md_faultPlace, .int md_place, .ref a_md_acts, .ref a_md_actNumbers, .ref a_md_actCounts, .int md_bank, .int md_unaries, .int md_opens, .ref a_md_pile, .int md_piled, .int md_loop, .ref a_md_begins, .ref a_md_goals, .ref a_md_ranks, .ref a_md_choiceCounts, .ref a_md_whens, .ref a_md_becomes, .ref a_md_guessCounts, .ref a_md_guesses, .ref a_md_unaryCounts, .ref a_md_stack, .ref a_md_nexts, .ref a_md_isBegin, .ref a_md_isGoal, .ref a_md_levels, .ref a_md_queue, .ref a_md_hasGuesses, .int md_keptBits, .ref a_md_rounds, .ref a_md_marked, .ref a_md_other, .ref a_md_heights])), (a_md_nexts, .inl (cI, 24576, .inl md_nexts)), (a_md_isGoal, .inl (cZ, 4096, .inl md_isGoal)), (a_md_levels, .inl (cI, 4096, .inl md_levels)), (a_md_marked, .inl (cZ, 4096, .inl md_marked))] s.heap.size = A at hD hT ⊢
  have hA : ∀ q : Nat, s.heap.size ≤ q → A q := fun q h => by rw [← hAe]; exact Or.inr h
  have hS : va_S A s.heap s.heap [] := va_S.rf
  generalize hQ : MQ below _ _ s 0 0 _ = QQ
  have hl := lv_entry ([.ref a_md]) (n := 6) (Nat.le_of_ble_eq_true rfl)
  rw [lg_entry_eq]
  generalize (lg_sl ([.ref a_md]) ++ List.replicate (6 - (lg_sl ([.ref a_md])).length) Slot.unset).toArray = ls at hl ⊢
  have hl : lv_has ls 6 [(0, .ref a_md)] := hl
  have fl_63 := (hts _ (List.mem_cons_of_mem _ m_1119))
  have fl_70 := (hts _ (List.mem_cons_of_mem _ m_1121))
  have fl_73 := (hts _ (List.mem_cons_of_mem _ m_1122))
  have fl_85 := (hts _ (List.mem_cons_of_mem _ m_1127))
  refine lv_iconst (v := (-1)) hx hb d_Md_markRuns_0 (by decide) ?_
  refine lv_istore_n (lv' := [(1, .int (-1)), (0, .ref a_md)]) hx hb d_Md_markRuns_1 rfl hl (by decide) rfl (fun ls hl => ?_)
  refine lv_iconst (v := 0) hx hb d_Md_markRuns_2 (by decide) ?_
  refine lv_istore_n (lv' := [(2, .int 0), (1, .int (-1)), (0, .ref a_md)]) hx hb d_Md_markRuns_3 rfl hl (by decide) rfl (fun ls hl => ?_)
  have L4_q_3 : ∀ (k60 : Int32 → Prop) (hk60 : ∀ (x1_4 : Int32), k60 x1_4 → ∀ (H : Heap) (locs : List Loc), va_P (dC, dI) vwCl [(a_md, .inr (11, [.ref a_md_tape, .int md_size, .int md_at, .int md_token, .int md_tokenPlace, .int md_number, .int md_sign, .int md_bad, .int md_faultPlace, .int md_place, .ref a_md_acts, .ref a_md_actNumbers, .ref a_md_actCounts, .int md_bank, .int md_unaries, .int md_opens, .ref a_md_pile, .int md_piled, .int md_loop, .ref a_md_begins, .ref a_md_goals, .ref a_md_ranks, .ref a_md_choiceCounts, .ref a_md_whens, .ref a_md_becomes, .ref a_md_guessCounts, .ref a_md_guesses, .ref a_md_unaryCounts, .ref a_md_stack, .ref a_md_nexts, .ref a_md_isBegin, .ref a_md_isGoal, .ref a_md_levels, .ref a_md_queue, .ref a_md_hasGuesses, .int md_keptBits, .ref a_md_rounds, .ref a_md_marked, .ref a_md_other, .ref a_md_heights])), (a_md_nexts, .inl (cI, 24576, .inl md_nexts)), (a_md_isGoal, .inl (cZ, 4096, .inl md_isGoal)), (a_md_levels, .inl (cI, 4096, .inl md_levels)), (a_md_marked, .inl (cZ, 4096, .inl md_marked))] H → va_D A [(a_md, .inr (11, [.ref a_md_tape, .int md_size, .int md_at, .int md_token, .int md_tokenPlace, .int md_number, .int md_sign, .int md_bad, .int md_faultPlace, .int md_place, .ref a_md_acts, .ref a_md_actNumbers, .ref a_md_actCounts, .int md_bank, .int md_unaries, .int md_opens, .ref a_md_pile, .int md_piled, .int md_loop, .ref a_md_begins, .ref a_md_goals, .ref a_md_ranks, .ref a_md_choiceCounts, .ref a_md_whens, .ref a_md_becomes, .ref a_md_guessCounts, .ref a_md_guesses, .ref a_md_unaryCounts, .ref a_md_stack, .ref a_md_nexts, .ref a_md_isBegin, .ref a_md_isGoal, .ref a_md_levels, .ref a_md_queue, .ref a_md_hasGuesses, .int md_keptBits, .ref a_md_rounds, .ref a_md_marked, .ref a_md_other, .ref a_md_heights])), (a_md_nexts, .inl (cI, 24576, .inl md_nexts)), (a_md_isGoal, .inl (cZ, 4096, .inl md_isGoal)), (a_md_levels, .inl (cI, 4096, .inl md_levels)), (a_md_marked, .inl (cZ, 4096, .inl md_marked))] → va_S A s.heap H locs → ∀ ls : Array Slot, lv_has ls 6 [(0, .ref a_md), (1, .int x1_4)] → W p l e (headSpec w_Md_markRuns ({ frames := 0, cells := 0, slots := 0, locals := 0 })).room s m (([.ref a_md] : List Value).toArray) below meth c H locs 0 0 QQ (F0 m 60 ls [])) (n : Nat) (x1_1 : Int32) (x2_2 : Int32), wp_Md_markRuns_L4 md_isGoal md_levels k60 n x1_1 x2_2 → ∀ (H : Heap) (locs : List Loc), va_P (dC, dI) vwCl [(a_md, .inr (11, [.ref a_md_tape, .int md_size, .int md_at, .int md_token, .int md_tokenPlace, .int md_number, .int md_sign, .int md_bad, .int md_faultPlace, .int md_place, .ref a_md_acts, .ref a_md_actNumbers, .ref a_md_actCounts, .int md_bank, .int md_unaries, .int md_opens, .ref a_md_pile, .int md_piled, .int md_loop, .ref a_md_begins, .ref a_md_goals, .ref a_md_ranks, .ref a_md_choiceCounts, .ref a_md_whens, .ref a_md_becomes, .ref a_md_guessCounts, .ref a_md_guesses, .ref a_md_unaryCounts, .ref a_md_stack, .ref a_md_nexts, .ref a_md_isBegin, .ref a_md_isGoal, .ref a_md_levels, .ref a_md_queue, .ref a_md_hasGuesses, .int md_keptBits, .ref a_md_rounds, .ref a_md_marked, .ref a_md_other, .ref a_md_heights])), (a_md_nexts, .inl (cI, 24576, .inl md_nexts)), (a_md_isGoal, .inl (cZ, 4096, .inl md_isGoal)), (a_md_levels, .inl (cI, 4096, .inl md_levels)), (a_md_marked, .inl (cZ, 4096, .inl md_marked))] H → va_D A [(a_md, .inr (11, [.ref a_md_tape, .int md_size, .int md_at, .int md_token, .int md_tokenPlace, .int md_number, .int md_sign, .int md_bad, .int md_faultPlace, .int md_place, .ref a_md_acts, .ref a_md_actNumbers, .ref a_md_actCounts, .int md_bank, .int md_unaries, .int md_opens, .ref a_md_pile, .int md_piled, .int md_loop, .ref a_md_begins, .ref a_md_goals, .ref a_md_ranks, .ref a_md_choiceCounts, .ref a_md_whens, .ref a_md_becomes, .ref a_md_guessCounts, .ref a_md_guesses, .ref a_md_unaryCounts, .ref a_md_stack, .ref a_md_nexts, .ref a_md_isBegin, .ref a_md_isGoal, .ref a_md_levels, .ref a_md_queue, .ref a_md_hasGuesses, .int md_keptBits, .ref a_md_rounds, .ref a_md_marked, .ref a_md_other, .ref a_md_heights])), (a_md_nexts, .inl (cI, 24576, .inl md_nexts)), (a_md_isGoal, .inl (cZ, 4096, .inl md_isGoal)), (a_md_levels, .inl (cI, 4096, .inl md_levels)), (a_md_marked, .inl (cZ, 4096, .inl md_marked))] → va_S A s.heap H locs → ∀ ls : Array Slot, lv_has ls 6 [(0, .ref a_md), (1, .int x1_1), (2, .int x2_2)] → W p l e (headSpec w_Md_markRuns ({ frames := 0, cells := 0, slots := 0, locals := 0 })).room s m (([.ref a_md] : List Value).toArray) below meth c H locs 0 0 QQ (F0 m 4 ls []) := by
    intro k60 hk60 n
    induction n with
    | zero => intro x1_1 x2_2 h; exact (show False from h).elim
    | succ n il =>
      intro x1_1 x2_2 h H locs hP hD hS ls hl
      refine lv_iload_n hx hb d_Md_markRuns_4 rfl (lv_at hl 2 rfl) ?_
      refine lv_sipush (v := 4096) hx hb d_Md_markRuns_5 (by decide) ?_
      refine lv_icmp_ge (tgt := 60) hx hb d_Md_markRuns_8 (by decide) (fun c_8 => ?_) (fun c_8 => ?_)
      · have h := And.left h c_8
        exact hk60 _ h _ _ hP hD hS _ (lv_sub hl [0, 1] rfl)
      · have h := And.right h c_8
        refine lv_aload_n hx hb d_Md_markRuns_11 rfl (lv_at hl 0 rfl) ?_
        refine va_get (D := (dC, dI)) (ci := 11) (v := .ref a_md_levels) (C := "LoopInductionModel") (T := F_Md) (N := 40) hx hb hts iC_Md hown hK hP 0 rfl rfl 32 (by decide) fl_73 (fun _ h9 => h9) rfl d_Md_markRuns_12 ?_
        refine lv_iload_n hx hb d_Md_markRuns_15 rfl (lv_at hl 2 rfl) ?_
        obtain ⟨hin_16, h⟩ := h
        refine va_iald hx hb hK hP 3 0 rfl rfl hin_16 d_Md_markRuns_16 ?_
        refine lv_if_lt (tgt := 52) hx hb d_Md_markRuns_17 (by decide) (fun c_17 => ?_) (fun c_17 => ?_)
        · have h := And.left h c_17
          refine lv_iload_n hx hb d_Md_markRuns_52 rfl (lv_at hl 1 rfl) ?_
          refine lv_istore_n (lv' := [(1, .int x1_1), (0, .ref a_md), (2, .int x2_2)]) hx hb d_Md_markRuns_53 rfl hl (by decide) rfl (fun ls hl => ?_)
          refine lv_iinc (v := x2_2 + 1) (lv' := [(2, .int (x2_2 + 1)), (1, .int x1_1), (0, .ref a_md)]) hx hb d_Md_markRuns_54 hl (k := 2) rfl rfl (by decide) rfl (fun ls hl => ?_)
          refine lv_goto (tgt := 4) hx hb d_Md_markRuns_57 (by decide) ?_
          exact il _ _ h _ _ hP hD hS _ (lv_sub hl [2, 1, 0] rfl)
        · have h := And.right h c_17
          refine lv_aload_n hx hb d_Md_markRuns_20 rfl (lv_at hl 0 rfl) ?_
          refine va_get (D := (dC, dI)) (ci := 11) (v := .ref a_md_isGoal) (C := "LoopInductionModel") (T := F_Md) (N := 40) hx hb hts iC_Md hown hK hP 0 rfl rfl 31 (by decide) fl_70 (fun _ h9 => h9) rfl d_Md_markRuns_21 ?_
          refine lv_iload_n hx hb d_Md_markRuns_24 rfl (lv_at hl 2 rfl) ?_
          obtain ⟨hin_25, h⟩ := h
          refine va_zald hx hb hK hP 2 2 rfl rfl hin_25 d_Md_markRuns_25 ?_
          refine lv_if_ne (tgt := 52) hx hb d_Md_markRuns_26 (by decide) (fun c_26 => ?_) (fun c_26 => ?_)
          · have h := And.left h c_26
            refine lv_iload_n hx hb d_Md_markRuns_52 rfl (lv_at hl 1 rfl) ?_
            refine lv_istore_n (lv' := [(1, .int x1_1), (0, .ref a_md), (2, .int x2_2)]) hx hb d_Md_markRuns_53 rfl hl (by decide) rfl (fun ls hl => ?_)
            refine lv_iinc (v := x2_2 + 1) (lv' := [(2, .int (x2_2 + 1)), (1, .int x1_1), (0, .ref a_md)]) hx hb d_Md_markRuns_54 hl (k := 2) rfl rfl (by decide) rfl (fun ls hl => ?_)
            refine lv_goto (tgt := 4) hx hb d_Md_markRuns_57 (by decide) ?_
            exact il _ _ h _ _ hP hD hS _ (lv_sub hl [2, 1, 0] rfl)
          · have h := And.right h c_26
            refine lv_iload_n hx hb d_Md_markRuns_29 rfl (lv_at hl 1 rfl) ?_
            refine lv_if_lt (tgt := 43) hx hb d_Md_markRuns_30 (by decide) (fun c_30 => ?_) (fun c_30 => ?_)
            · have h := And.left h c_30
              refine lv_aload_n hx hb d_Md_markRuns_43 rfl (lv_at hl 0 rfl) ?_
              refine va_get (D := (dC, dI)) (ci := 11) (v := .ref a_md_levels) (C := "LoopInductionModel") (T := F_Md) (N := 40) hx hb hts iC_Md hown hK hP 0 rfl rfl 32 (by decide) fl_73 (fun _ h9 => h9) rfl d_Md_markRuns_44 ?_
              refine lv_iload_n hx hb d_Md_markRuns_47 rfl (lv_at hl 2 rfl) ?_
              obtain ⟨hin_48, h⟩ := h
              refine va_iald hx hb hK hP 3 0 rfl rfl hin_48 d_Md_markRuns_48 ?_
              refine lv_goto (tgt := 53) hx hb d_Md_markRuns_49 (by decide) ?_
              refine lv_topi (fun x1_5 ex1_5 => ?_)
              have h := h x1_5 ex1_5
              refine lv_istore_n (lv' := [(1, .int x1_5), (0, .ref a_md), (2, .int x2_2)]) hx hb d_Md_markRuns_53 rfl hl (by decide) rfl (fun ls hl => ?_)
              refine lv_iinc (v := x2_2 + 1) (lv' := [(2, .int (x2_2 + 1)), (1, .int x1_5), (0, .ref a_md)]) hx hb d_Md_markRuns_54 hl (k := 2) rfl rfl (by decide) rfl (fun ls hl => ?_)
              refine lv_goto (tgt := 4) hx hb d_Md_markRuns_57 (by decide) ?_
              exact il _ _ h _ _ hP hD hS _ (lv_sub hl [2, 1, 0] rfl)
            · have h := And.right h c_30
              refine lv_aload_n hx hb d_Md_markRuns_33 rfl (lv_at hl 0 rfl) ?_
              refine va_get (D := (dC, dI)) (ci := 11) (v := .ref a_md_levels) (C := "LoopInductionModel") (T := F_Md) (N := 40) hx hb hts iC_Md hown hK hP 0 rfl rfl 32 (by decide) fl_73 (fun _ h9 => h9) rfl d_Md_markRuns_34 ?_
              refine lv_iload_n hx hb d_Md_markRuns_37 rfl (lv_at hl 2 rfl) ?_
              obtain ⟨hin_38, h⟩ := h
              refine va_iald hx hb hK hP 3 0 rfl rfl hin_38 d_Md_markRuns_38 ?_
              refine lv_iload_n hx hb d_Md_markRuns_39 rfl (lv_at hl 1 rfl) ?_
              refine lv_icmp_ge (tgt := 52) hx hb d_Md_markRuns_40 (by decide) (fun c_40 => ?_) (fun c_40 => ?_)
              · have h := And.left h c_40
                refine lv_iload_n hx hb d_Md_markRuns_52 rfl (lv_at hl 1 rfl) ?_
                refine lv_istore_n (lv' := [(1, .int x1_1), (0, .ref a_md), (2, .int x2_2)]) hx hb d_Md_markRuns_53 rfl hl (by decide) rfl (fun ls hl => ?_)
                refine lv_iinc (v := x2_2 + 1) (lv' := [(2, .int (x2_2 + 1)), (1, .int x1_1), (0, .ref a_md)]) hx hb d_Md_markRuns_54 hl (k := 2) rfl rfl (by decide) rfl (fun ls hl => ?_)
                refine lv_goto (tgt := 4) hx hb d_Md_markRuns_57 (by decide) ?_
                exact il _ _ h _ _ hP hD hS _ (lv_sub hl [2, 1, 0] rfl)
              · have h := And.right h c_40
                refine lv_aload_n hx hb d_Md_markRuns_43 rfl (lv_at hl 0 rfl) ?_
                refine va_get (D := (dC, dI)) (ci := 11) (v := .ref a_md_levels) (C := "LoopInductionModel") (T := F_Md) (N := 40) hx hb hts iC_Md hown hK hP 0 rfl rfl 32 (by decide) fl_73 (fun _ h9 => h9) rfl d_Md_markRuns_44 ?_
                refine lv_iload_n hx hb d_Md_markRuns_47 rfl (lv_at hl 2 rfl) ?_
                obtain ⟨hin_48, h⟩ := h
                refine va_iald hx hb hK hP 3 0 rfl rfl hin_48 d_Md_markRuns_48 ?_
                refine lv_goto (tgt := 53) hx hb d_Md_markRuns_49 (by decide) ?_
                refine lv_topi (fun x1_6 ex1_6 => ?_)
                have h := h x1_6 ex1_6
                refine lv_istore_n (lv' := [(1, .int x1_6), (0, .ref a_md), (2, .int x2_2)]) hx hb d_Md_markRuns_53 rfl hl (by decide) rfl (fun ls hl => ?_)
                refine lv_iinc (v := x2_2 + 1) (lv' := [(2, .int (x2_2 + 1)), (1, .int x1_6), (0, .ref a_md)]) hx hb d_Md_markRuns_54 hl (k := 2) rfl rfl (by decide) rfl (fun ls hl => ?_)
                refine lv_goto (tgt := 4) hx hb d_Md_markRuns_57 (by decide) ?_
                exact il _ _ h _ _ hP hD hS _ (lv_sub hl [2, 1, 0] rfl)
  obtain ⟨n_, h⟩ := h
  refine L4_q_3 _ ?_ n_ _ _ h _ _ hP hD hS _ (lv_sub hl [2, 1, 0] rfl)
  intro x1_7 h H locs hP hD hS ls hl
  refine lv_iconst (v := 0) hx hb d_Md_markRuns_60 (by decide) ?_
  refine lv_istore_n (lv' := [(2, .int 0), (0, .ref a_md), (1, .int x1_7)]) hx hb d_Md_markRuns_61 rfl hl (by decide) rfl (fun ls hl => ?_)
  have L62_q_10 : ∀ (k109 : (Nat → Int32) → Prop) (hk109 : ∀ (md_marked_11 : Nat → Int32), k109 md_marked_11 → ∀ (H : Heap) (locs : List Loc), va_P (dC, dI) vwCl [(a_md, .inr (11, [.ref a_md_tape, .int md_size, .int md_at, .int md_token, .int md_tokenPlace, .int md_number, .int md_sign, .int md_bad, .int md_faultPlace, .int md_place, .ref a_md_acts, .ref a_md_actNumbers, .ref a_md_actCounts, .int md_bank, .int md_unaries, .int md_opens, .ref a_md_pile, .int md_piled, .int md_loop, .ref a_md_begins, .ref a_md_goals, .ref a_md_ranks, .ref a_md_choiceCounts, .ref a_md_whens, .ref a_md_becomes, .ref a_md_guessCounts, .ref a_md_guesses, .ref a_md_unaryCounts, .ref a_md_stack, .ref a_md_nexts, .ref a_md_isBegin, .ref a_md_isGoal, .ref a_md_levels, .ref a_md_queue, .ref a_md_hasGuesses, .int md_keptBits, .ref a_md_rounds, .ref a_md_marked, .ref a_md_other, .ref a_md_heights])), (a_md_nexts, .inl (cI, 24576, .inl md_nexts)), (a_md_isGoal, .inl (cZ, 4096, .inl md_isGoal)), (a_md_levels, .inl (cI, 4096, .inl md_levels)), (a_md_marked, .inl (cZ, 4096, .inl md_marked_11))] H → va_D A [(a_md, .inr (11, [.ref a_md_tape, .int md_size, .int md_at, .int md_token, .int md_tokenPlace, .int md_number, .int md_sign, .int md_bad, .int md_faultPlace, .int md_place, .ref a_md_acts, .ref a_md_actNumbers, .ref a_md_actCounts, .int md_bank, .int md_unaries, .int md_opens, .ref a_md_pile, .int md_piled, .int md_loop, .ref a_md_begins, .ref a_md_goals, .ref a_md_ranks, .ref a_md_choiceCounts, .ref a_md_whens, .ref a_md_becomes, .ref a_md_guessCounts, .ref a_md_guesses, .ref a_md_unaryCounts, .ref a_md_stack, .ref a_md_nexts, .ref a_md_isBegin, .ref a_md_isGoal, .ref a_md_levels, .ref a_md_queue, .ref a_md_hasGuesses, .int md_keptBits, .ref a_md_rounds, .ref a_md_marked, .ref a_md_other, .ref a_md_heights])), (a_md_nexts, .inl (cI, 24576, .inl md_nexts)), (a_md_isGoal, .inl (cZ, 4096, .inl md_isGoal)), (a_md_levels, .inl (cI, 4096, .inl md_levels)), (a_md_marked, .inl (cZ, 4096, .inl md_marked_11))] → va_S A s.heap H locs → ∀ ls : Array Slot, lv_has ls 6 [(0, .ref a_md), (1, .int x1_7)] → W p l e (headSpec w_Md_markRuns ({ frames := 0, cells := 0, slots := 0, locals := 0 })).room s m (([.ref a_md] : List Value).toArray) below meth c H locs 0 0 QQ (F0 m 109 ls [])) (n : Nat) (x2_8 : Int32) (md_marked_9 : Nat → Int32), wp_Md_markRuns_L62 x1_7 md_isGoal md_levels k109 n x2_8 md_marked_9 → ∀ (H : Heap) (locs : List Loc), va_P (dC, dI) vwCl [(a_md, .inr (11, [.ref a_md_tape, .int md_size, .int md_at, .int md_token, .int md_tokenPlace, .int md_number, .int md_sign, .int md_bad, .int md_faultPlace, .int md_place, .ref a_md_acts, .ref a_md_actNumbers, .ref a_md_actCounts, .int md_bank, .int md_unaries, .int md_opens, .ref a_md_pile, .int md_piled, .int md_loop, .ref a_md_begins, .ref a_md_goals, .ref a_md_ranks, .ref a_md_choiceCounts, .ref a_md_whens, .ref a_md_becomes, .ref a_md_guessCounts, .ref a_md_guesses, .ref a_md_unaryCounts, .ref a_md_stack, .ref a_md_nexts, .ref a_md_isBegin, .ref a_md_isGoal, .ref a_md_levels, .ref a_md_queue, .ref a_md_hasGuesses, .int md_keptBits, .ref a_md_rounds, .ref a_md_marked, .ref a_md_other, .ref a_md_heights])), (a_md_nexts, .inl (cI, 24576, .inl md_nexts)), (a_md_isGoal, .inl (cZ, 4096, .inl md_isGoal)), (a_md_levels, .inl (cI, 4096, .inl md_levels)), (a_md_marked, .inl (cZ, 4096, .inl md_marked_9))] H → va_D A [(a_md, .inr (11, [.ref a_md_tape, .int md_size, .int md_at, .int md_token, .int md_tokenPlace, .int md_number, .int md_sign, .int md_bad, .int md_faultPlace, .int md_place, .ref a_md_acts, .ref a_md_actNumbers, .ref a_md_actCounts, .int md_bank, .int md_unaries, .int md_opens, .ref a_md_pile, .int md_piled, .int md_loop, .ref a_md_begins, .ref a_md_goals, .ref a_md_ranks, .ref a_md_choiceCounts, .ref a_md_whens, .ref a_md_becomes, .ref a_md_guessCounts, .ref a_md_guesses, .ref a_md_unaryCounts, .ref a_md_stack, .ref a_md_nexts, .ref a_md_isBegin, .ref a_md_isGoal, .ref a_md_levels, .ref a_md_queue, .ref a_md_hasGuesses, .int md_keptBits, .ref a_md_rounds, .ref a_md_marked, .ref a_md_other, .ref a_md_heights])), (a_md_nexts, .inl (cI, 24576, .inl md_nexts)), (a_md_isGoal, .inl (cZ, 4096, .inl md_isGoal)), (a_md_levels, .inl (cI, 4096, .inl md_levels)), (a_md_marked, .inl (cZ, 4096, .inl md_marked_9))] → va_S A s.heap H locs → ∀ ls : Array Slot, lv_has ls 6 [(0, .ref a_md), (1, .int x1_7), (2, .int x2_8)] → W p l e (headSpec w_Md_markRuns ({ frames := 0, cells := 0, slots := 0, locals := 0 })).room s m (([.ref a_md] : List Value).toArray) below meth c H locs 0 0 QQ (F0 m 62 ls []) := by
    intro k109 hk109 n
    induction n with
    | zero => intro x2_8 md_marked_9 h; exact (show False from h).elim
    | succ n il =>
      intro x2_8 md_marked_9 h H locs hP hD hS ls hl
      refine lv_iload_n hx hb d_Md_markRuns_62 rfl (lv_at hl 2 rfl) ?_
      refine lv_sipush (v := 4096) hx hb d_Md_markRuns_63 (by decide) ?_
      refine lv_icmp_ge (tgt := 109) hx hb d_Md_markRuns_66 (by decide) (fun c_66 => ?_) (fun c_66 => ?_)
      · have h := And.left h c_66
        exact hk109 _ h _ _ hP hD hS _ (lv_sub hl [0, 1] rfl)
      · have h := And.right h c_66
        refine lv_aload_n hx hb d_Md_markRuns_69 rfl (lv_at hl 0 rfl) ?_
        refine va_get (D := (dC, dI)) (ci := 11) (v := .ref a_md_marked) (C := "LoopInductionModel") (T := F_Md) (N := 40) hx hb hts iC_Md hown hK hP 0 rfl rfl 37 (by decide) fl_85 (fun _ h9 => h9) rfl d_Md_markRuns_70 ?_
        refine lv_iload_n hx hb d_Md_markRuns_73 rfl (lv_at hl 2 rfl) ?_
        refine lv_iload_n hx hb d_Md_markRuns_74 rfl (lv_at hl 1 rfl) ?_
        refine lv_if_lt (tgt := 101) hx hb d_Md_markRuns_75 (by decide) (fun c_75 => ?_) (fun c_75 => ?_)
        · have h := And.left h c_75
          refine lv_iconst (v := 0) hx hb d_Md_markRuns_101 (by decide) ?_
          obtain ⟨hin_102, h⟩ := h
          refine va_zast hx hb hK hP hD hS 4 2 rfl rfl hin_102 d_Md_markRuns_102 (fun H locs hP hD hS => ?_)
          have hP : va_P (dC, dI) vwCl [(a_md, .inr (11, [.ref a_md_tape, .int md_size, .int md_at, .int md_token, .int md_tokenPlace, .int md_number, .int md_sign, .int md_bad, .int md_faultPlace, .int md_place, .ref a_md_acts, .ref a_md_actNumbers, .ref a_md_actCounts, .int md_bank, .int md_unaries, .int md_opens, .ref a_md_pile, .int md_piled, .int md_loop, .ref a_md_begins, .ref a_md_goals, .ref a_md_ranks, .ref a_md_choiceCounts, .ref a_md_whens, .ref a_md_becomes, .ref a_md_guessCounts, .ref a_md_guesses, .ref a_md_unaryCounts, .ref a_md_stack, .ref a_md_nexts, .ref a_md_isBegin, .ref a_md_isGoal, .ref a_md_levels, .ref a_md_queue, .ref a_md_hasGuesses, .int md_keptBits, .ref a_md_rounds, .ref a_md_marked, .ref a_md_other, .ref a_md_heights])), (a_md_nexts, .inl (cI, 24576, .inl md_nexts)), (a_md_isGoal, .inl (cZ, 4096, .inl md_isGoal)), (a_md_levels, .inl (cI, 4096, .inl md_levels)), (a_md_marked, .inl (cZ, 4096, .inl (upd md_marked_9 (x2_8 : Int32).toNatClampNeg (vp_nar .boolean 0))))] H := hP
          have hD : va_D A [(a_md, .inr (11, [.ref a_md_tape, .int md_size, .int md_at, .int md_token, .int md_tokenPlace, .int md_number, .int md_sign, .int md_bad, .int md_faultPlace, .int md_place, .ref a_md_acts, .ref a_md_actNumbers, .ref a_md_actCounts, .int md_bank, .int md_unaries, .int md_opens, .ref a_md_pile, .int md_piled, .int md_loop, .ref a_md_begins, .ref a_md_goals, .ref a_md_ranks, .ref a_md_choiceCounts, .ref a_md_whens, .ref a_md_becomes, .ref a_md_guessCounts, .ref a_md_guesses, .ref a_md_unaryCounts, .ref a_md_stack, .ref a_md_nexts, .ref a_md_isBegin, .ref a_md_isGoal, .ref a_md_levels, .ref a_md_queue, .ref a_md_hasGuesses, .int md_keptBits, .ref a_md_rounds, .ref a_md_marked, .ref a_md_other, .ref a_md_heights])), (a_md_nexts, .inl (cI, 24576, .inl md_nexts)), (a_md_isGoal, .inl (cZ, 4096, .inl md_isGoal)), (a_md_levels, .inl (cI, 4096, .inl md_levels)), (a_md_marked, .inl (cZ, 4096, .inl (upd md_marked_9 (x2_8 : Int32).toNatClampNeg (vp_nar .boolean 0))))] := hD
          refine lv_iinc (v := x2_8 + 1) (lv' := [(2, .int (x2_8 + 1)), (0, .ref a_md), (1, .int x1_7)]) hx hb d_Md_markRuns_103 hl (k := 2) rfl rfl (by decide) rfl (fun ls hl => ?_)
          refine lv_goto (tgt := 62) hx hb d_Md_markRuns_106 (by decide) ?_
          exact il _ _ h _ _ hP hD hS _ (lv_sub hl [1, 2, 0] rfl)
        · have h := And.right h c_75
          refine lv_aload_n hx hb d_Md_markRuns_78 rfl (lv_at hl 0 rfl) ?_
          refine va_get (D := (dC, dI)) (ci := 11) (v := .ref a_md_levels) (C := "LoopInductionModel") (T := F_Md) (N := 40) hx hb hts iC_Md hown hK hP 0 rfl rfl 32 (by decide) fl_73 (fun _ h9 => h9) rfl d_Md_markRuns_79 ?_
          refine lv_iload_n hx hb d_Md_markRuns_82 rfl (lv_at hl 2 rfl) ?_
          obtain ⟨hin_83, h⟩ := h
          refine va_iald hx hb hK hP 3 0 rfl rfl hin_83 d_Md_markRuns_83 ?_
          refine lv_iload_n hx hb d_Md_markRuns_84 rfl (lv_at hl 1 rfl) ?_
          refine lv_icmp_ne (tgt := 101) hx hb d_Md_markRuns_85 (by decide) (fun c_85 => ?_) (fun c_85 => ?_)
          · have h := And.left h c_85
            refine lv_iconst (v := 0) hx hb d_Md_markRuns_101 (by decide) ?_
            obtain ⟨hin_102, h⟩ := h
            refine va_zast hx hb hK hP hD hS 4 2 rfl rfl hin_102 d_Md_markRuns_102 (fun H locs hP hD hS => ?_)
            have hP : va_P (dC, dI) vwCl [(a_md, .inr (11, [.ref a_md_tape, .int md_size, .int md_at, .int md_token, .int md_tokenPlace, .int md_number, .int md_sign, .int md_bad, .int md_faultPlace, .int md_place, .ref a_md_acts, .ref a_md_actNumbers, .ref a_md_actCounts, .int md_bank, .int md_unaries, .int md_opens, .ref a_md_pile, .int md_piled, .int md_loop, .ref a_md_begins, .ref a_md_goals, .ref a_md_ranks, .ref a_md_choiceCounts, .ref a_md_whens, .ref a_md_becomes, .ref a_md_guessCounts, .ref a_md_guesses, .ref a_md_unaryCounts, .ref a_md_stack, .ref a_md_nexts, .ref a_md_isBegin, .ref a_md_isGoal, .ref a_md_levels, .ref a_md_queue, .ref a_md_hasGuesses, .int md_keptBits, .ref a_md_rounds, .ref a_md_marked, .ref a_md_other, .ref a_md_heights])), (a_md_nexts, .inl (cI, 24576, .inl md_nexts)), (a_md_isGoal, .inl (cZ, 4096, .inl md_isGoal)), (a_md_levels, .inl (cI, 4096, .inl md_levels)), (a_md_marked, .inl (cZ, 4096, .inl (upd md_marked_9 (x2_8 : Int32).toNatClampNeg (vp_nar .boolean 0))))] H := hP
            have hD : va_D A [(a_md, .inr (11, [.ref a_md_tape, .int md_size, .int md_at, .int md_token, .int md_tokenPlace, .int md_number, .int md_sign, .int md_bad, .int md_faultPlace, .int md_place, .ref a_md_acts, .ref a_md_actNumbers, .ref a_md_actCounts, .int md_bank, .int md_unaries, .int md_opens, .ref a_md_pile, .int md_piled, .int md_loop, .ref a_md_begins, .ref a_md_goals, .ref a_md_ranks, .ref a_md_choiceCounts, .ref a_md_whens, .ref a_md_becomes, .ref a_md_guessCounts, .ref a_md_guesses, .ref a_md_unaryCounts, .ref a_md_stack, .ref a_md_nexts, .ref a_md_isBegin, .ref a_md_isGoal, .ref a_md_levels, .ref a_md_queue, .ref a_md_hasGuesses, .int md_keptBits, .ref a_md_rounds, .ref a_md_marked, .ref a_md_other, .ref a_md_heights])), (a_md_nexts, .inl (cI, 24576, .inl md_nexts)), (a_md_isGoal, .inl (cZ, 4096, .inl md_isGoal)), (a_md_levels, .inl (cI, 4096, .inl md_levels)), (a_md_marked, .inl (cZ, 4096, .inl (upd md_marked_9 (x2_8 : Int32).toNatClampNeg (vp_nar .boolean 0))))] := hD
            refine lv_iinc (v := x2_8 + 1) (lv' := [(2, .int (x2_8 + 1)), (0, .ref a_md), (1, .int x1_7)]) hx hb d_Md_markRuns_103 hl (k := 2) rfl rfl (by decide) rfl (fun ls hl => ?_)
            refine lv_goto (tgt := 62) hx hb d_Md_markRuns_106 (by decide) ?_
            exact il _ _ h _ _ hP hD hS _ (lv_sub hl [1, 2, 0] rfl)
          · have h := And.right h c_85
            refine lv_aload_n hx hb d_Md_markRuns_88 rfl (lv_at hl 0 rfl) ?_
            refine va_get (D := (dC, dI)) (ci := 11) (v := .ref a_md_isGoal) (C := "LoopInductionModel") (T := F_Md) (N := 40) hx hb hts iC_Md hown hK hP 0 rfl rfl 31 (by decide) fl_70 (fun _ h9 => h9) rfl d_Md_markRuns_89 ?_
            refine lv_iload_n hx hb d_Md_markRuns_92 rfl (lv_at hl 2 rfl) ?_
            obtain ⟨hin_93, h⟩ := h
            refine va_zald hx hb hK hP 2 2 rfl rfl hin_93 d_Md_markRuns_93 ?_
            refine lv_if_ne (tgt := 101) hx hb d_Md_markRuns_94 (by decide) (fun c_94 => ?_) (fun c_94 => ?_)
            · have h := And.left h c_94
              refine lv_iconst (v := 0) hx hb d_Md_markRuns_101 (by decide) ?_
              obtain ⟨hin_102, h⟩ := h
              refine va_zast hx hb hK hP hD hS 4 2 rfl rfl hin_102 d_Md_markRuns_102 (fun H locs hP hD hS => ?_)
              have hP : va_P (dC, dI) vwCl [(a_md, .inr (11, [.ref a_md_tape, .int md_size, .int md_at, .int md_token, .int md_tokenPlace, .int md_number, .int md_sign, .int md_bad, .int md_faultPlace, .int md_place, .ref a_md_acts, .ref a_md_actNumbers, .ref a_md_actCounts, .int md_bank, .int md_unaries, .int md_opens, .ref a_md_pile, .int md_piled, .int md_loop, .ref a_md_begins, .ref a_md_goals, .ref a_md_ranks, .ref a_md_choiceCounts, .ref a_md_whens, .ref a_md_becomes, .ref a_md_guessCounts, .ref a_md_guesses, .ref a_md_unaryCounts, .ref a_md_stack, .ref a_md_nexts, .ref a_md_isBegin, .ref a_md_isGoal, .ref a_md_levels, .ref a_md_queue, .ref a_md_hasGuesses, .int md_keptBits, .ref a_md_rounds, .ref a_md_marked, .ref a_md_other, .ref a_md_heights])), (a_md_nexts, .inl (cI, 24576, .inl md_nexts)), (a_md_isGoal, .inl (cZ, 4096, .inl md_isGoal)), (a_md_levels, .inl (cI, 4096, .inl md_levels)), (a_md_marked, .inl (cZ, 4096, .inl (upd md_marked_9 (x2_8 : Int32).toNatClampNeg (vp_nar .boolean 0))))] H := hP
              have hD : va_D A [(a_md, .inr (11, [.ref a_md_tape, .int md_size, .int md_at, .int md_token, .int md_tokenPlace, .int md_number, .int md_sign, .int md_bad, .int md_faultPlace, .int md_place, .ref a_md_acts, .ref a_md_actNumbers, .ref a_md_actCounts, .int md_bank, .int md_unaries, .int md_opens, .ref a_md_pile, .int md_piled, .int md_loop, .ref a_md_begins, .ref a_md_goals, .ref a_md_ranks, .ref a_md_choiceCounts, .ref a_md_whens, .ref a_md_becomes, .ref a_md_guessCounts, .ref a_md_guesses, .ref a_md_unaryCounts, .ref a_md_stack, .ref a_md_nexts, .ref a_md_isBegin, .ref a_md_isGoal, .ref a_md_levels, .ref a_md_queue, .ref a_md_hasGuesses, .int md_keptBits, .ref a_md_rounds, .ref a_md_marked, .ref a_md_other, .ref a_md_heights])), (a_md_nexts, .inl (cI, 24576, .inl md_nexts)), (a_md_isGoal, .inl (cZ, 4096, .inl md_isGoal)), (a_md_levels, .inl (cI, 4096, .inl md_levels)), (a_md_marked, .inl (cZ, 4096, .inl (upd md_marked_9 (x2_8 : Int32).toNatClampNeg (vp_nar .boolean 0))))] := hD
              refine lv_iinc (v := x2_8 + 1) (lv' := [(2, .int (x2_8 + 1)), (0, .ref a_md), (1, .int x1_7)]) hx hb d_Md_markRuns_103 hl (k := 2) rfl rfl (by decide) rfl (fun ls hl => ?_)
              refine lv_goto (tgt := 62) hx hb d_Md_markRuns_106 (by decide) ?_
              exact il _ _ h _ _ hP hD hS _ (lv_sub hl [1, 2, 0] rfl)
            · have h := And.right h c_94
              refine lv_iconst (v := 1) hx hb d_Md_markRuns_97 (by decide) ?_
              refine lv_goto (tgt := 102) hx hb d_Md_markRuns_98 (by decide) ?_
              obtain ⟨hin_102, h⟩ := h
              refine va_zast hx hb hK hP hD hS 4 2 rfl rfl hin_102 d_Md_markRuns_102 (fun H locs hP hD hS => ?_)
              have hP : va_P (dC, dI) vwCl [(a_md, .inr (11, [.ref a_md_tape, .int md_size, .int md_at, .int md_token, .int md_tokenPlace, .int md_number, .int md_sign, .int md_bad, .int md_faultPlace, .int md_place, .ref a_md_acts, .ref a_md_actNumbers, .ref a_md_actCounts, .int md_bank, .int md_unaries, .int md_opens, .ref a_md_pile, .int md_piled, .int md_loop, .ref a_md_begins, .ref a_md_goals, .ref a_md_ranks, .ref a_md_choiceCounts, .ref a_md_whens, .ref a_md_becomes, .ref a_md_guessCounts, .ref a_md_guesses, .ref a_md_unaryCounts, .ref a_md_stack, .ref a_md_nexts, .ref a_md_isBegin, .ref a_md_isGoal, .ref a_md_levels, .ref a_md_queue, .ref a_md_hasGuesses, .int md_keptBits, .ref a_md_rounds, .ref a_md_marked, .ref a_md_other, .ref a_md_heights])), (a_md_nexts, .inl (cI, 24576, .inl md_nexts)), (a_md_isGoal, .inl (cZ, 4096, .inl md_isGoal)), (a_md_levels, .inl (cI, 4096, .inl md_levels)), (a_md_marked, .inl (cZ, 4096, .inl (upd md_marked_9 (x2_8 : Int32).toNatClampNeg (vp_nar .boolean 1))))] H := hP
              have hD : va_D A [(a_md, .inr (11, [.ref a_md_tape, .int md_size, .int md_at, .int md_token, .int md_tokenPlace, .int md_number, .int md_sign, .int md_bad, .int md_faultPlace, .int md_place, .ref a_md_acts, .ref a_md_actNumbers, .ref a_md_actCounts, .int md_bank, .int md_unaries, .int md_opens, .ref a_md_pile, .int md_piled, .int md_loop, .ref a_md_begins, .ref a_md_goals, .ref a_md_ranks, .ref a_md_choiceCounts, .ref a_md_whens, .ref a_md_becomes, .ref a_md_guessCounts, .ref a_md_guesses, .ref a_md_unaryCounts, .ref a_md_stack, .ref a_md_nexts, .ref a_md_isBegin, .ref a_md_isGoal, .ref a_md_levels, .ref a_md_queue, .ref a_md_hasGuesses, .int md_keptBits, .ref a_md_rounds, .ref a_md_marked, .ref a_md_other, .ref a_md_heights])), (a_md_nexts, .inl (cI, 24576, .inl md_nexts)), (a_md_isGoal, .inl (cZ, 4096, .inl md_isGoal)), (a_md_levels, .inl (cI, 4096, .inl md_levels)), (a_md_marked, .inl (cZ, 4096, .inl (upd md_marked_9 (x2_8 : Int32).toNatClampNeg (vp_nar .boolean 1))))] := hD
              refine lv_iinc (v := x2_8 + 1) (lv' := [(2, .int (x2_8 + 1)), (0, .ref a_md), (1, .int x1_7)]) hx hb d_Md_markRuns_103 hl (k := 2) rfl rfl (by decide) rfl (fun ls hl => ?_)
              refine lv_goto (tgt := 62) hx hb d_Md_markRuns_106 (by decide) ?_
              exact il _ _ h _ _ hP hD hS _ (lv_sub hl [1, 2, 0] rfl)
  obtain ⟨n_, h⟩ := h
  refine L62_q_10 _ ?_ n_ _ _ h _ _ hP hD hS _ (lv_sub hl [1, 2, 0] rfl)
  intro md_marked_12 h H locs hP hD hS ls hl
  refine lv_iload_n hx hb d_Md_markRuns_109 rfl (lv_at hl 1 rfl) ?_
  refine lv_iconst (v := 1) hx hb d_Md_markRuns_110 (by decide) ?_
  refine lv_isub hx hb d_Md_markRuns_111 ?_
  refine lv_topi (fun x2_13 ex2_13 => ?_)
  have h := h x2_13 ex2_13
  refine lv_istore_n (lv' := [(2, .int x2_13), (0, .ref a_md), (1, .int x1_7)]) hx hb d_Md_markRuns_112 rfl hl (by decide) rfl (fun ls hl => ?_)
  have L113_q_16 : ∀ (k226 : (Nat → Int32) → Prop) (hk226 : ∀ (md_marked_17 : Nat → Int32), k226 md_marked_17 → ∀ (H : Heap) (locs : List Loc), va_P (dC, dI) vwCl [(a_md, .inr (11, [.ref a_md_tape, .int md_size, .int md_at, .int md_token, .int md_tokenPlace, .int md_number, .int md_sign, .int md_bad, .int md_faultPlace, .int md_place, .ref a_md_acts, .ref a_md_actNumbers, .ref a_md_actCounts, .int md_bank, .int md_unaries, .int md_opens, .ref a_md_pile, .int md_piled, .int md_loop, .ref a_md_begins, .ref a_md_goals, .ref a_md_ranks, .ref a_md_choiceCounts, .ref a_md_whens, .ref a_md_becomes, .ref a_md_guessCounts, .ref a_md_guesses, .ref a_md_unaryCounts, .ref a_md_stack, .ref a_md_nexts, .ref a_md_isBegin, .ref a_md_isGoal, .ref a_md_levels, .ref a_md_queue, .ref a_md_hasGuesses, .int md_keptBits, .ref a_md_rounds, .ref a_md_marked, .ref a_md_other, .ref a_md_heights])), (a_md_nexts, .inl (cI, 24576, .inl md_nexts)), (a_md_isGoal, .inl (cZ, 4096, .inl md_isGoal)), (a_md_levels, .inl (cI, 4096, .inl md_levels)), (a_md_marked, .inl (cZ, 4096, .inl md_marked_17))] H → va_D A [(a_md, .inr (11, [.ref a_md_tape, .int md_size, .int md_at, .int md_token, .int md_tokenPlace, .int md_number, .int md_sign, .int md_bad, .int md_faultPlace, .int md_place, .ref a_md_acts, .ref a_md_actNumbers, .ref a_md_actCounts, .int md_bank, .int md_unaries, .int md_opens, .ref a_md_pile, .int md_piled, .int md_loop, .ref a_md_begins, .ref a_md_goals, .ref a_md_ranks, .ref a_md_choiceCounts, .ref a_md_whens, .ref a_md_becomes, .ref a_md_guessCounts, .ref a_md_guesses, .ref a_md_unaryCounts, .ref a_md_stack, .ref a_md_nexts, .ref a_md_isBegin, .ref a_md_isGoal, .ref a_md_levels, .ref a_md_queue, .ref a_md_hasGuesses, .int md_keptBits, .ref a_md_rounds, .ref a_md_marked, .ref a_md_other, .ref a_md_heights])), (a_md_nexts, .inl (cI, 24576, .inl md_nexts)), (a_md_isGoal, .inl (cZ, 4096, .inl md_isGoal)), (a_md_levels, .inl (cI, 4096, .inl md_levels)), (a_md_marked, .inl (cZ, 4096, .inl md_marked_17))] → va_S A s.heap H locs → ∀ ls : Array Slot, lv_has ls 6 [(1, .int x1_7)] → W p l e (headSpec w_Md_markRuns ({ frames := 0, cells := 0, slots := 0, locals := 0 })).room s m (([.ref a_md] : List Value).toArray) below meth c H locs 0 0 QQ (F0 m 226 ls [])) (n : Nat) (x2_14 : Int32) (md_marked_15 : Nat → Int32), wp_Md_markRuns_L113 x1_7 md_nexts md_levels k226 n x2_14 md_marked_15 → ∀ (H : Heap) (locs : List Loc), va_P (dC, dI) vwCl [(a_md, .inr (11, [.ref a_md_tape, .int md_size, .int md_at, .int md_token, .int md_tokenPlace, .int md_number, .int md_sign, .int md_bad, .int md_faultPlace, .int md_place, .ref a_md_acts, .ref a_md_actNumbers, .ref a_md_actCounts, .int md_bank, .int md_unaries, .int md_opens, .ref a_md_pile, .int md_piled, .int md_loop, .ref a_md_begins, .ref a_md_goals, .ref a_md_ranks, .ref a_md_choiceCounts, .ref a_md_whens, .ref a_md_becomes, .ref a_md_guessCounts, .ref a_md_guesses, .ref a_md_unaryCounts, .ref a_md_stack, .ref a_md_nexts, .ref a_md_isBegin, .ref a_md_isGoal, .ref a_md_levels, .ref a_md_queue, .ref a_md_hasGuesses, .int md_keptBits, .ref a_md_rounds, .ref a_md_marked, .ref a_md_other, .ref a_md_heights])), (a_md_nexts, .inl (cI, 24576, .inl md_nexts)), (a_md_isGoal, .inl (cZ, 4096, .inl md_isGoal)), (a_md_levels, .inl (cI, 4096, .inl md_levels)), (a_md_marked, .inl (cZ, 4096, .inl md_marked_15))] H → va_D A [(a_md, .inr (11, [.ref a_md_tape, .int md_size, .int md_at, .int md_token, .int md_tokenPlace, .int md_number, .int md_sign, .int md_bad, .int md_faultPlace, .int md_place, .ref a_md_acts, .ref a_md_actNumbers, .ref a_md_actCounts, .int md_bank, .int md_unaries, .int md_opens, .ref a_md_pile, .int md_piled, .int md_loop, .ref a_md_begins, .ref a_md_goals, .ref a_md_ranks, .ref a_md_choiceCounts, .ref a_md_whens, .ref a_md_becomes, .ref a_md_guessCounts, .ref a_md_guesses, .ref a_md_unaryCounts, .ref a_md_stack, .ref a_md_nexts, .ref a_md_isBegin, .ref a_md_isGoal, .ref a_md_levels, .ref a_md_queue, .ref a_md_hasGuesses, .int md_keptBits, .ref a_md_rounds, .ref a_md_marked, .ref a_md_other, .ref a_md_heights])), (a_md_nexts, .inl (cI, 24576, .inl md_nexts)), (a_md_isGoal, .inl (cZ, 4096, .inl md_isGoal)), (a_md_levels, .inl (cI, 4096, .inl md_levels)), (a_md_marked, .inl (cZ, 4096, .inl md_marked_15))] → va_S A s.heap H locs → ∀ ls : Array Slot, lv_has ls 6 [(0, .ref a_md), (1, .int x1_7), (2, .int x2_14)] → W p l e (headSpec w_Md_markRuns ({ frames := 0, cells := 0, slots := 0, locals := 0 })).room s m (([.ref a_md] : List Value).toArray) below meth c H locs 0 0 QQ (F0 m 113 ls []) := by
    intro k226 hk226 n
    induction n with
    | zero => intro x2_14 md_marked_15 h; exact (show False from h).elim
    | succ n il =>
      intro x2_14 md_marked_15 h H locs hP hD hS ls hl
      refine lv_iload_n hx hb d_Md_markRuns_113 rfl (lv_at hl 2 rfl) ?_
      refine lv_if_lt (tgt := 226) hx hb d_Md_markRuns_114 (by decide) (fun c_114 => ?_) (fun c_114 => ?_)
      · have h := And.left h c_114
        exact hk226 _ h _ _ hP hD hS _ (lv_sub hl [1] rfl)
      · have h := And.right h c_114
        refine lv_iconst (v := 0) hx hb d_Md_markRuns_117 (by decide) ?_
        refine lv_istore_n (lv' := [(3, .int 0), (0, .ref a_md), (1, .int x1_7), (2, .int x2_14)]) hx hb d_Md_markRuns_118 rfl hl (by decide) rfl (fun ls hl => ?_)
        have L119_q_20 : ∀ (k220 : (Nat → Int32) → Prop) (hk220 : ∀ (md_marked_21 : Nat → Int32), k220 md_marked_21 → ∀ (H : Heap) (locs : List Loc), va_P (dC, dI) vwCl [(a_md, .inr (11, [.ref a_md_tape, .int md_size, .int md_at, .int md_token, .int md_tokenPlace, .int md_number, .int md_sign, .int md_bad, .int md_faultPlace, .int md_place, .ref a_md_acts, .ref a_md_actNumbers, .ref a_md_actCounts, .int md_bank, .int md_unaries, .int md_opens, .ref a_md_pile, .int md_piled, .int md_loop, .ref a_md_begins, .ref a_md_goals, .ref a_md_ranks, .ref a_md_choiceCounts, .ref a_md_whens, .ref a_md_becomes, .ref a_md_guessCounts, .ref a_md_guesses, .ref a_md_unaryCounts, .ref a_md_stack, .ref a_md_nexts, .ref a_md_isBegin, .ref a_md_isGoal, .ref a_md_levels, .ref a_md_queue, .ref a_md_hasGuesses, .int md_keptBits, .ref a_md_rounds, .ref a_md_marked, .ref a_md_other, .ref a_md_heights])), (a_md_nexts, .inl (cI, 24576, .inl md_nexts)), (a_md_isGoal, .inl (cZ, 4096, .inl md_isGoal)), (a_md_levels, .inl (cI, 4096, .inl md_levels)), (a_md_marked, .inl (cZ, 4096, .inl md_marked_21))] H → va_D A [(a_md, .inr (11, [.ref a_md_tape, .int md_size, .int md_at, .int md_token, .int md_tokenPlace, .int md_number, .int md_sign, .int md_bad, .int md_faultPlace, .int md_place, .ref a_md_acts, .ref a_md_actNumbers, .ref a_md_actCounts, .int md_bank, .int md_unaries, .int md_opens, .ref a_md_pile, .int md_piled, .int md_loop, .ref a_md_begins, .ref a_md_goals, .ref a_md_ranks, .ref a_md_choiceCounts, .ref a_md_whens, .ref a_md_becomes, .ref a_md_guessCounts, .ref a_md_guesses, .ref a_md_unaryCounts, .ref a_md_stack, .ref a_md_nexts, .ref a_md_isBegin, .ref a_md_isGoal, .ref a_md_levels, .ref a_md_queue, .ref a_md_hasGuesses, .int md_keptBits, .ref a_md_rounds, .ref a_md_marked, .ref a_md_other, .ref a_md_heights])), (a_md_nexts, .inl (cI, 24576, .inl md_nexts)), (a_md_isGoal, .inl (cZ, 4096, .inl md_isGoal)), (a_md_levels, .inl (cI, 4096, .inl md_levels)), (a_md_marked, .inl (cZ, 4096, .inl md_marked_21))] → va_S A s.heap H locs → ∀ ls : Array Slot, lv_has ls 6 [(0, .ref a_md), (1, .int x1_7), (2, .int x2_14)] → W p l e (headSpec w_Md_markRuns ({ frames := 0, cells := 0, slots := 0, locals := 0 })).room s m (([.ref a_md] : List Value).toArray) below meth c H locs 0 0 QQ (F0 m 220 ls [])) (n : Nat) (x3_18 : Int32) (md_marked_19 : Nat → Int32), wp_Md_markRuns_L119 x1_7 x2_14 md_nexts md_levels k220 n x3_18 md_marked_19 → ∀ (H : Heap) (locs : List Loc), va_P (dC, dI) vwCl [(a_md, .inr (11, [.ref a_md_tape, .int md_size, .int md_at, .int md_token, .int md_tokenPlace, .int md_number, .int md_sign, .int md_bad, .int md_faultPlace, .int md_place, .ref a_md_acts, .ref a_md_actNumbers, .ref a_md_actCounts, .int md_bank, .int md_unaries, .int md_opens, .ref a_md_pile, .int md_piled, .int md_loop, .ref a_md_begins, .ref a_md_goals, .ref a_md_ranks, .ref a_md_choiceCounts, .ref a_md_whens, .ref a_md_becomes, .ref a_md_guessCounts, .ref a_md_guesses, .ref a_md_unaryCounts, .ref a_md_stack, .ref a_md_nexts, .ref a_md_isBegin, .ref a_md_isGoal, .ref a_md_levels, .ref a_md_queue, .ref a_md_hasGuesses, .int md_keptBits, .ref a_md_rounds, .ref a_md_marked, .ref a_md_other, .ref a_md_heights])), (a_md_nexts, .inl (cI, 24576, .inl md_nexts)), (a_md_isGoal, .inl (cZ, 4096, .inl md_isGoal)), (a_md_levels, .inl (cI, 4096, .inl md_levels)), (a_md_marked, .inl (cZ, 4096, .inl md_marked_19))] H → va_D A [(a_md, .inr (11, [.ref a_md_tape, .int md_size, .int md_at, .int md_token, .int md_tokenPlace, .int md_number, .int md_sign, .int md_bad, .int md_faultPlace, .int md_place, .ref a_md_acts, .ref a_md_actNumbers, .ref a_md_actCounts, .int md_bank, .int md_unaries, .int md_opens, .ref a_md_pile, .int md_piled, .int md_loop, .ref a_md_begins, .ref a_md_goals, .ref a_md_ranks, .ref a_md_choiceCounts, .ref a_md_whens, .ref a_md_becomes, .ref a_md_guessCounts, .ref a_md_guesses, .ref a_md_unaryCounts, .ref a_md_stack, .ref a_md_nexts, .ref a_md_isBegin, .ref a_md_isGoal, .ref a_md_levels, .ref a_md_queue, .ref a_md_hasGuesses, .int md_keptBits, .ref a_md_rounds, .ref a_md_marked, .ref a_md_other, .ref a_md_heights])), (a_md_nexts, .inl (cI, 24576, .inl md_nexts)), (a_md_isGoal, .inl (cZ, 4096, .inl md_isGoal)), (a_md_levels, .inl (cI, 4096, .inl md_levels)), (a_md_marked, .inl (cZ, 4096, .inl md_marked_19))] → va_S A s.heap H locs → ∀ ls : Array Slot, lv_has ls 6 [(0, .ref a_md), (1, .int x1_7), (2, .int x2_14), (3, .int x3_18)] → W p l e (headSpec w_Md_markRuns ({ frames := 0, cells := 0, slots := 0, locals := 0 })).room s m (([.ref a_md] : List Value).toArray) below meth c H locs 0 0 QQ (F0 m 119 ls []) := by
          intro k220 hk220 n
          induction n with
          | zero => intro x3_18 md_marked_19 h; exact (show False from h).elim
          | succ n il =>
            intro x3_18 md_marked_19 h H locs hP hD hS ls hl
            refine lv_iload_n hx hb d_Md_markRuns_119 rfl (lv_at hl 3 rfl) ?_
            refine lv_sipush (v := 4096) hx hb d_Md_markRuns_120 (by decide) ?_
            refine lv_icmp_ge (tgt := 220) hx hb d_Md_markRuns_123 (by decide) (fun c_123 => ?_) (fun c_123 => ?_)
            · have h := And.left h c_123
              exact hk220 _ h _ _ hP hD hS _ (lv_sub hl [0, 1, 2] rfl)
            · have h := And.right h c_123
              refine lv_iconst (v := 0) hx hb d_Md_markRuns_126 (by decide) ?_
              refine lv_istore (lv' := [(4, .int 0), (0, .ref a_md), (1, .int x1_7), (2, .int x2_14), (3, .int x3_18)]) hx hb d_Md_markRuns_127 hl (by decide) rfl (fun ls hl => ?_)
              have L129_q_24 : ∀ (k214 : (Nat → Int32) → Prop) (hk214 : ∀ (md_marked_25 : Nat → Int32), k214 md_marked_25 → ∀ (H : Heap) (locs : List Loc), va_P (dC, dI) vwCl [(a_md, .inr (11, [.ref a_md_tape, .int md_size, .int md_at, .int md_token, .int md_tokenPlace, .int md_number, .int md_sign, .int md_bad, .int md_faultPlace, .int md_place, .ref a_md_acts, .ref a_md_actNumbers, .ref a_md_actCounts, .int md_bank, .int md_unaries, .int md_opens, .ref a_md_pile, .int md_piled, .int md_loop, .ref a_md_begins, .ref a_md_goals, .ref a_md_ranks, .ref a_md_choiceCounts, .ref a_md_whens, .ref a_md_becomes, .ref a_md_guessCounts, .ref a_md_guesses, .ref a_md_unaryCounts, .ref a_md_stack, .ref a_md_nexts, .ref a_md_isBegin, .ref a_md_isGoal, .ref a_md_levels, .ref a_md_queue, .ref a_md_hasGuesses, .int md_keptBits, .ref a_md_rounds, .ref a_md_marked, .ref a_md_other, .ref a_md_heights])), (a_md_nexts, .inl (cI, 24576, .inl md_nexts)), (a_md_isGoal, .inl (cZ, 4096, .inl md_isGoal)), (a_md_levels, .inl (cI, 4096, .inl md_levels)), (a_md_marked, .inl (cZ, 4096, .inl md_marked_25))] H → va_D A [(a_md, .inr (11, [.ref a_md_tape, .int md_size, .int md_at, .int md_token, .int md_tokenPlace, .int md_number, .int md_sign, .int md_bad, .int md_faultPlace, .int md_place, .ref a_md_acts, .ref a_md_actNumbers, .ref a_md_actCounts, .int md_bank, .int md_unaries, .int md_opens, .ref a_md_pile, .int md_piled, .int md_loop, .ref a_md_begins, .ref a_md_goals, .ref a_md_ranks, .ref a_md_choiceCounts, .ref a_md_whens, .ref a_md_becomes, .ref a_md_guessCounts, .ref a_md_guesses, .ref a_md_unaryCounts, .ref a_md_stack, .ref a_md_nexts, .ref a_md_isBegin, .ref a_md_isGoal, .ref a_md_levels, .ref a_md_queue, .ref a_md_hasGuesses, .int md_keptBits, .ref a_md_rounds, .ref a_md_marked, .ref a_md_other, .ref a_md_heights])), (a_md_nexts, .inl (cI, 24576, .inl md_nexts)), (a_md_isGoal, .inl (cZ, 4096, .inl md_isGoal)), (a_md_levels, .inl (cI, 4096, .inl md_levels)), (a_md_marked, .inl (cZ, 4096, .inl md_marked_25))] → va_S A s.heap H locs → ∀ ls : Array Slot, lv_has ls 6 [(0, .ref a_md), (1, .int x1_7), (2, .int x2_14), (3, .int x3_18)] → W p l e (headSpec w_Md_markRuns ({ frames := 0, cells := 0, slots := 0, locals := 0 })).room s m (([.ref a_md] : List Value).toArray) below meth c H locs 0 0 QQ (F0 m 214 ls [])) (n : Nat) (x4_22 : Int32) (md_marked_23 : Nat → Int32), wp_Md_markRuns_L129 x1_7 x2_14 x3_18 md_nexts md_levels k214 n x4_22 md_marked_23 → ∀ (H : Heap) (locs : List Loc), va_P (dC, dI) vwCl [(a_md, .inr (11, [.ref a_md_tape, .int md_size, .int md_at, .int md_token, .int md_tokenPlace, .int md_number, .int md_sign, .int md_bad, .int md_faultPlace, .int md_place, .ref a_md_acts, .ref a_md_actNumbers, .ref a_md_actCounts, .int md_bank, .int md_unaries, .int md_opens, .ref a_md_pile, .int md_piled, .int md_loop, .ref a_md_begins, .ref a_md_goals, .ref a_md_ranks, .ref a_md_choiceCounts, .ref a_md_whens, .ref a_md_becomes, .ref a_md_guessCounts, .ref a_md_guesses, .ref a_md_unaryCounts, .ref a_md_stack, .ref a_md_nexts, .ref a_md_isBegin, .ref a_md_isGoal, .ref a_md_levels, .ref a_md_queue, .ref a_md_hasGuesses, .int md_keptBits, .ref a_md_rounds, .ref a_md_marked, .ref a_md_other, .ref a_md_heights])), (a_md_nexts, .inl (cI, 24576, .inl md_nexts)), (a_md_isGoal, .inl (cZ, 4096, .inl md_isGoal)), (a_md_levels, .inl (cI, 4096, .inl md_levels)), (a_md_marked, .inl (cZ, 4096, .inl md_marked_23))] H → va_D A [(a_md, .inr (11, [.ref a_md_tape, .int md_size, .int md_at, .int md_token, .int md_tokenPlace, .int md_number, .int md_sign, .int md_bad, .int md_faultPlace, .int md_place, .ref a_md_acts, .ref a_md_actNumbers, .ref a_md_actCounts, .int md_bank, .int md_unaries, .int md_opens, .ref a_md_pile, .int md_piled, .int md_loop, .ref a_md_begins, .ref a_md_goals, .ref a_md_ranks, .ref a_md_choiceCounts, .ref a_md_whens, .ref a_md_becomes, .ref a_md_guessCounts, .ref a_md_guesses, .ref a_md_unaryCounts, .ref a_md_stack, .ref a_md_nexts, .ref a_md_isBegin, .ref a_md_isGoal, .ref a_md_levels, .ref a_md_queue, .ref a_md_hasGuesses, .int md_keptBits, .ref a_md_rounds, .ref a_md_marked, .ref a_md_other, .ref a_md_heights])), (a_md_nexts, .inl (cI, 24576, .inl md_nexts)), (a_md_isGoal, .inl (cZ, 4096, .inl md_isGoal)), (a_md_levels, .inl (cI, 4096, .inl md_levels)), (a_md_marked, .inl (cZ, 4096, .inl md_marked_23))] → va_S A s.heap H locs → ∀ ls : Array Slot, lv_has ls 6 [(0, .ref a_md), (1, .int x1_7), (2, .int x2_14), (3, .int x3_18), (4, .int x4_22)] → W p l e (headSpec w_Md_markRuns ({ frames := 0, cells := 0, slots := 0, locals := 0 })).room s m (([.ref a_md] : List Value).toArray) below meth c H locs 0 0 QQ (F0 m 129 ls []) := by
                intro k214 hk214 n
                induction n with
                | zero => intro x4_22 md_marked_23 h; exact (show False from h).elim
                | succ n il =>
                  intro x4_22 md_marked_23 h H locs hP hD hS ls hl
                  refine lv_iload hx hb d_Md_markRuns_129 (lv_at hl 4 rfl) ?_
                  refine lv_bipush (v := 6) hx hb d_Md_markRuns_131 (by decide) ?_
                  refine lv_icmp_ge (tgt := 214) hx hb d_Md_markRuns_133 (by decide) (fun c_133 => ?_) (fun c_133 => ?_)
                  · have h := And.left h c_133
                    exact hk214 _ h _ _ hP hD hS _ (lv_sub hl [0, 1, 2, 3] rfl)
                  · have h := And.right h c_133
                    refine lv_aload_n hx hb d_Md_markRuns_136 rfl (lv_at hl 0 rfl) ?_
                    refine va_get (D := (dC, dI)) (ci := 11) (v := .ref a_md_levels) (C := "LoopInductionModel") (T := F_Md) (N := 40) hx hb hts iC_Md hown hK hP 0 rfl rfl 32 (by decide) fl_73 (fun _ h9 => h9) rfl d_Md_markRuns_137 ?_
                    refine lv_iload_n hx hb d_Md_markRuns_140 rfl (lv_at hl 3 rfl) ?_
                    obtain ⟨hin_141, h⟩ := h
                    refine va_iald hx hb hK hP 3 0 rfl rfl hin_141 d_Md_markRuns_141 ?_
                    refine lv_iload_n hx hb d_Md_markRuns_142 rfl (lv_at hl 2 rfl) ?_
                    refine lv_icmp_ne (tgt := 214) hx hb d_Md_markRuns_143 (by decide) (fun c_143 => ?_) (fun c_143 => ?_)
                    · have h := And.left h c_143
                      exact hk214 _ h _ _ hP hD hS _ (lv_sub hl [0, 1, 2, 3] rfl)
                    · have h := And.right h c_143
                      refine lv_aload_n hx hb d_Md_markRuns_146 rfl (lv_at hl 0 rfl) ?_
                      refine va_get (D := (dC, dI)) (ci := 11) (v := .ref a_md_nexts) (C := "LoopInductionModel") (T := F_Md) (N := 40) hx hb hts iC_Md hown hK hP 0 rfl rfl 29 (by decide) fl_63 (fun _ h9 => h9) rfl d_Md_markRuns_147 ?_
                      refine lv_bipush (v := 6) hx hb d_Md_markRuns_150 (by decide) ?_
                      refine lv_iload_n hx hb d_Md_markRuns_152 rfl (lv_at hl 3 rfl) ?_
                      refine lv_imul hx hb d_Md_markRuns_153 ?_
                      refine lv_iload hx hb d_Md_markRuns_154 (lv_at hl 4 rfl) ?_
                      refine lv_iadd hx hb d_Md_markRuns_156 ?_
                      obtain ⟨hin_157, h⟩ := h
                      refine va_iald hx hb hK hP 1 0 rfl rfl hin_157 d_Md_markRuns_157 ?_
                      refine lv_topi (fun x5_26 ex5_26 => ?_)
                      have h := h x5_26 ex5_26
                      refine lv_istore (lv' := [(5, .int x5_26), (0, .ref a_md), (1, .int x1_7), (2, .int x2_14), (3, .int x3_18), (4, .int x4_22)]) hx hb d_Md_markRuns_158 hl (by decide) rfl (fun ls hl => ?_)
                      refine lv_aload_n hx hb d_Md_markRuns_160 rfl (lv_at hl 1 rfl) ?_
                      refine va_get (D := (dC, dI)) (ci := 11) (v := .ref a_md_marked) (C := "LoopInductionModel") (T := F_Md) (N := 40) hx hb hts iC_Md hown hK hP 0 rfl rfl 37 (by decide) fl_85 (fun _ h9 => h9) rfl d_Md_markRuns_161 ?_
                      refine lv_iload_n hx hb d_Md_markRuns_164 rfl (lv_at hl 4 rfl) ?_
                      refine lv_aload_n hx hb d_Md_markRuns_165 rfl (lv_at hl 1 rfl) ?_
                      refine va_get (D := (dC, dI)) (ci := 11) (v := .ref a_md_marked) (C := "LoopInductionModel") (T := F_Md) (N := 40) hx hb hts iC_Md hown hK hP 0 rfl rfl 37 (by decide) fl_85 (fun _ h9 => h9) rfl d_Md_markRuns_166 ?_
                      refine lv_iload_n hx hb d_Md_markRuns_169 rfl (lv_at hl 4 rfl) ?_
                      obtain ⟨hin_170, h⟩ := h
                      refine va_zald hx hb hK hP 4 2 rfl rfl hin_170 d_Md_markRuns_170 ?_
                      refine lv_if_ne (tgt := 202) hx hb d_Md_markRuns_171 (by decide) (fun c_171 => ?_) (fun c_171 => ?_)
                      · have h := And.left h c_171
                        refine lv_iconst (v := 1) hx hb d_Md_markRuns_202 (by decide) ?_
                        refine lv_goto (tgt := 207) hx hb d_Md_markRuns_203 (by decide) ?_
                        obtain ⟨hin_207, h⟩ := h
                        refine va_zast hx hb hK hP hD hS 4 2 rfl rfl hin_207 d_Md_markRuns_207 (fun H locs hP hD hS => ?_)
                        have hP : va_P (dC, dI) vwCl [(a_md, .inr (11, [.ref a_md_tape, .int md_size, .int md_at, .int md_token, .int md_tokenPlace, .int md_number, .int md_sign, .int md_bad, .int md_faultPlace, .int md_place, .ref a_md_acts, .ref a_md_actNumbers, .ref a_md_actCounts, .int md_bank, .int md_unaries, .int md_opens, .ref a_md_pile, .int md_piled, .int md_loop, .ref a_md_begins, .ref a_md_goals, .ref a_md_ranks, .ref a_md_choiceCounts, .ref a_md_whens, .ref a_md_becomes, .ref a_md_guessCounts, .ref a_md_guesses, .ref a_md_unaryCounts, .ref a_md_stack, .ref a_md_nexts, .ref a_md_isBegin, .ref a_md_isGoal, .ref a_md_levels, .ref a_md_queue, .ref a_md_hasGuesses, .int md_keptBits, .ref a_md_rounds, .ref a_md_marked, .ref a_md_other, .ref a_md_heights])), (a_md_nexts, .inl (cI, 24576, .inl md_nexts)), (a_md_isGoal, .inl (cZ, 4096, .inl md_isGoal)), (a_md_levels, .inl (cI, 4096, .inl md_levels)), (a_md_marked, .inl (cZ, 4096, .inl (upd md_marked_23 (x3_18 : Int32).toNatClampNeg (vp_nar .boolean 1))))] H := hP
                        have hD : va_D A [(a_md, .inr (11, [.ref a_md_tape, .int md_size, .int md_at, .int md_token, .int md_tokenPlace, .int md_number, .int md_sign, .int md_bad, .int md_faultPlace, .int md_place, .ref a_md_acts, .ref a_md_actNumbers, .ref a_md_actCounts, .int md_bank, .int md_unaries, .int md_opens, .ref a_md_pile, .int md_piled, .int md_loop, .ref a_md_begins, .ref a_md_goals, .ref a_md_ranks, .ref a_md_choiceCounts, .ref a_md_whens, .ref a_md_becomes, .ref a_md_guessCounts, .ref a_md_guesses, .ref a_md_unaryCounts, .ref a_md_stack, .ref a_md_nexts, .ref a_md_isBegin, .ref a_md_isGoal, .ref a_md_levels, .ref a_md_queue, .ref a_md_hasGuesses, .int md_keptBits, .ref a_md_rounds, .ref a_md_marked, .ref a_md_other, .ref a_md_heights])), (a_md_nexts, .inl (cI, 24576, .inl md_nexts)), (a_md_isGoal, .inl (cZ, 4096, .inl md_isGoal)), (a_md_levels, .inl (cI, 4096, .inl md_levels)), (a_md_marked, .inl (cZ, 4096, .inl (upd md_marked_23 (x3_18 : Int32).toNatClampNeg (vp_nar .boolean 1))))] := hD
                        refine lv_iinc (v := x4_22 + 1) (lv' := [(4, .int (x4_22 + 1)), (5, .int x5_26), (0, .ref a_md), (1, .int x1_7), (2, .int x2_14), (3, .int x3_18)]) hx hb d_Md_markRuns_208 hl (k := 5) rfl rfl (by decide) rfl (fun ls hl => ?_)
                        refine lv_goto (tgt := 129) hx hb d_Md_markRuns_211 (by decide) ?_
                        exact il _ _ h _ _ hP hD hS _ (lv_sub hl [2, 3, 4, 5, 0] rfl)
                      · have h := And.right h c_171
                        refine lv_iload hx hb d_Md_markRuns_174 (lv_at hl 0 rfl) ?_
                        refine lv_if_lt (tgt := 206) hx hb d_Md_markRuns_176 (by decide) (fun c_176 => ?_) (fun c_176 => ?_)
                        · have h := And.left h c_176
                          refine lv_iconst (v := 0) hx hb d_Md_markRuns_206 (by decide) ?_
                          obtain ⟨hin_207, h⟩ := h
                          refine va_zast hx hb hK hP hD hS 4 2 rfl rfl hin_207 d_Md_markRuns_207 (fun H locs hP hD hS => ?_)
                          have hP : va_P (dC, dI) vwCl [(a_md, .inr (11, [.ref a_md_tape, .int md_size, .int md_at, .int md_token, .int md_tokenPlace, .int md_number, .int md_sign, .int md_bad, .int md_faultPlace, .int md_place, .ref a_md_acts, .ref a_md_actNumbers, .ref a_md_actCounts, .int md_bank, .int md_unaries, .int md_opens, .ref a_md_pile, .int md_piled, .int md_loop, .ref a_md_begins, .ref a_md_goals, .ref a_md_ranks, .ref a_md_choiceCounts, .ref a_md_whens, .ref a_md_becomes, .ref a_md_guessCounts, .ref a_md_guesses, .ref a_md_unaryCounts, .ref a_md_stack, .ref a_md_nexts, .ref a_md_isBegin, .ref a_md_isGoal, .ref a_md_levels, .ref a_md_queue, .ref a_md_hasGuesses, .int md_keptBits, .ref a_md_rounds, .ref a_md_marked, .ref a_md_other, .ref a_md_heights])), (a_md_nexts, .inl (cI, 24576, .inl md_nexts)), (a_md_isGoal, .inl (cZ, 4096, .inl md_isGoal)), (a_md_levels, .inl (cI, 4096, .inl md_levels)), (a_md_marked, .inl (cZ, 4096, .inl (upd md_marked_23 (x3_18 : Int32).toNatClampNeg (vp_nar .boolean 0))))] H := hP
                          have hD : va_D A [(a_md, .inr (11, [.ref a_md_tape, .int md_size, .int md_at, .int md_token, .int md_tokenPlace, .int md_number, .int md_sign, .int md_bad, .int md_faultPlace, .int md_place, .ref a_md_acts, .ref a_md_actNumbers, .ref a_md_actCounts, .int md_bank, .int md_unaries, .int md_opens, .ref a_md_pile, .int md_piled, .int md_loop, .ref a_md_begins, .ref a_md_goals, .ref a_md_ranks, .ref a_md_choiceCounts, .ref a_md_whens, .ref a_md_becomes, .ref a_md_guessCounts, .ref a_md_guesses, .ref a_md_unaryCounts, .ref a_md_stack, .ref a_md_nexts, .ref a_md_isBegin, .ref a_md_isGoal, .ref a_md_levels, .ref a_md_queue, .ref a_md_hasGuesses, .int md_keptBits, .ref a_md_rounds, .ref a_md_marked, .ref a_md_other, .ref a_md_heights])), (a_md_nexts, .inl (cI, 24576, .inl md_nexts)), (a_md_isGoal, .inl (cZ, 4096, .inl md_isGoal)), (a_md_levels, .inl (cI, 4096, .inl md_levels)), (a_md_marked, .inl (cZ, 4096, .inl (upd md_marked_23 (x3_18 : Int32).toNatClampNeg (vp_nar .boolean 0))))] := hD
                          refine lv_iinc (v := x4_22 + 1) (lv' := [(4, .int (x4_22 + 1)), (5, .int x5_26), (0, .ref a_md), (1, .int x1_7), (2, .int x2_14), (3, .int x3_18)]) hx hb d_Md_markRuns_208 hl (k := 5) rfl rfl (by decide) rfl (fun ls hl => ?_)
                          refine lv_goto (tgt := 129) hx hb d_Md_markRuns_211 (by decide) ?_
                          exact il _ _ h _ _ hP hD hS _ (lv_sub hl [2, 3, 4, 5, 0] rfl)
                        · have h := And.right h c_176
                          refine lv_aload_n hx hb d_Md_markRuns_179 rfl (lv_at hl 1 rfl) ?_
                          refine va_get (D := (dC, dI)) (ci := 11) (v := .ref a_md_levels) (C := "LoopInductionModel") (T := F_Md) (N := 40) hx hb hts iC_Md hown hK hP 0 rfl rfl 32 (by decide) fl_73 (fun _ h9 => h9) rfl d_Md_markRuns_180 ?_
                          refine lv_iload hx hb d_Md_markRuns_183 (lv_at hl 0 rfl) ?_
                          obtain ⟨hin_185, h⟩ := h
                          refine va_iald hx hb hK hP 3 0 rfl rfl hin_185 d_Md_markRuns_185 ?_
                          refine lv_iload_n hx hb d_Md_markRuns_186 rfl (lv_at hl 3 rfl) ?_
                          refine lv_iconst (v := 1) hx hb d_Md_markRuns_187 (by decide) ?_
                          refine lv_iadd hx hb d_Md_markRuns_188 ?_
                          refine lv_icmp_ne (tgt := 206) hx hb d_Md_markRuns_189 (by decide) (fun c_189 => ?_) (fun c_189 => ?_)
                          · have h := And.left h c_189
                            refine lv_iconst (v := 0) hx hb d_Md_markRuns_206 (by decide) ?_
                            obtain ⟨hin_207, h⟩ := h
                            refine va_zast hx hb hK hP hD hS 4 2 rfl rfl hin_207 d_Md_markRuns_207 (fun H locs hP hD hS => ?_)
                            have hP : va_P (dC, dI) vwCl [(a_md, .inr (11, [.ref a_md_tape, .int md_size, .int md_at, .int md_token, .int md_tokenPlace, .int md_number, .int md_sign, .int md_bad, .int md_faultPlace, .int md_place, .ref a_md_acts, .ref a_md_actNumbers, .ref a_md_actCounts, .int md_bank, .int md_unaries, .int md_opens, .ref a_md_pile, .int md_piled, .int md_loop, .ref a_md_begins, .ref a_md_goals, .ref a_md_ranks, .ref a_md_choiceCounts, .ref a_md_whens, .ref a_md_becomes, .ref a_md_guessCounts, .ref a_md_guesses, .ref a_md_unaryCounts, .ref a_md_stack, .ref a_md_nexts, .ref a_md_isBegin, .ref a_md_isGoal, .ref a_md_levels, .ref a_md_queue, .ref a_md_hasGuesses, .int md_keptBits, .ref a_md_rounds, .ref a_md_marked, .ref a_md_other, .ref a_md_heights])), (a_md_nexts, .inl (cI, 24576, .inl md_nexts)), (a_md_isGoal, .inl (cZ, 4096, .inl md_isGoal)), (a_md_levels, .inl (cI, 4096, .inl md_levels)), (a_md_marked, .inl (cZ, 4096, .inl (upd md_marked_23 (x3_18 : Int32).toNatClampNeg (vp_nar .boolean 0))))] H := hP
                            have hD : va_D A [(a_md, .inr (11, [.ref a_md_tape, .int md_size, .int md_at, .int md_token, .int md_tokenPlace, .int md_number, .int md_sign, .int md_bad, .int md_faultPlace, .int md_place, .ref a_md_acts, .ref a_md_actNumbers, .ref a_md_actCounts, .int md_bank, .int md_unaries, .int md_opens, .ref a_md_pile, .int md_piled, .int md_loop, .ref a_md_begins, .ref a_md_goals, .ref a_md_ranks, .ref a_md_choiceCounts, .ref a_md_whens, .ref a_md_becomes, .ref a_md_guessCounts, .ref a_md_guesses, .ref a_md_unaryCounts, .ref a_md_stack, .ref a_md_nexts, .ref a_md_isBegin, .ref a_md_isGoal, .ref a_md_levels, .ref a_md_queue, .ref a_md_hasGuesses, .int md_keptBits, .ref a_md_rounds, .ref a_md_marked, .ref a_md_other, .ref a_md_heights])), (a_md_nexts, .inl (cI, 24576, .inl md_nexts)), (a_md_isGoal, .inl (cZ, 4096, .inl md_isGoal)), (a_md_levels, .inl (cI, 4096, .inl md_levels)), (a_md_marked, .inl (cZ, 4096, .inl (upd md_marked_23 (x3_18 : Int32).toNatClampNeg (vp_nar .boolean 0))))] := hD
                            refine lv_iinc (v := x4_22 + 1) (lv' := [(4, .int (x4_22 + 1)), (5, .int x5_26), (0, .ref a_md), (1, .int x1_7), (2, .int x2_14), (3, .int x3_18)]) hx hb d_Md_markRuns_208 hl (k := 5) rfl rfl (by decide) rfl (fun ls hl => ?_)
                            refine lv_goto (tgt := 129) hx hb d_Md_markRuns_211 (by decide) ?_
                            exact il _ _ h _ _ hP hD hS _ (lv_sub hl [2, 3, 4, 5, 0] rfl)
                          · have h := And.right h c_189
                            refine lv_aload_n hx hb d_Md_markRuns_192 rfl (lv_at hl 1 rfl) ?_
                            refine va_get (D := (dC, dI)) (ci := 11) (v := .ref a_md_marked) (C := "LoopInductionModel") (T := F_Md) (N := 40) hx hb hts iC_Md hown hK hP 0 rfl rfl 37 (by decide) fl_85 (fun _ h9 => h9) rfl d_Md_markRuns_193 ?_
                            refine lv_iload hx hb d_Md_markRuns_196 (lv_at hl 0 rfl) ?_
                            obtain ⟨hin_198, h⟩ := h
                            refine va_zald hx hb hK hP 4 2 rfl rfl hin_198 d_Md_markRuns_198 ?_
                            refine lv_if_eq (tgt := 206) hx hb d_Md_markRuns_199 (by decide) (fun c_199 => ?_) (fun c_199 => ?_)
                            · have h := And.left h c_199
                              refine lv_iconst (v := 0) hx hb d_Md_markRuns_206 (by decide) ?_
                              obtain ⟨hin_207, h⟩ := h
                              refine va_zast hx hb hK hP hD hS 4 2 rfl rfl hin_207 d_Md_markRuns_207 (fun H locs hP hD hS => ?_)
                              have hP : va_P (dC, dI) vwCl [(a_md, .inr (11, [.ref a_md_tape, .int md_size, .int md_at, .int md_token, .int md_tokenPlace, .int md_number, .int md_sign, .int md_bad, .int md_faultPlace, .int md_place, .ref a_md_acts, .ref a_md_actNumbers, .ref a_md_actCounts, .int md_bank, .int md_unaries, .int md_opens, .ref a_md_pile, .int md_piled, .int md_loop, .ref a_md_begins, .ref a_md_goals, .ref a_md_ranks, .ref a_md_choiceCounts, .ref a_md_whens, .ref a_md_becomes, .ref a_md_guessCounts, .ref a_md_guesses, .ref a_md_unaryCounts, .ref a_md_stack, .ref a_md_nexts, .ref a_md_isBegin, .ref a_md_isGoal, .ref a_md_levels, .ref a_md_queue, .ref a_md_hasGuesses, .int md_keptBits, .ref a_md_rounds, .ref a_md_marked, .ref a_md_other, .ref a_md_heights])), (a_md_nexts, .inl (cI, 24576, .inl md_nexts)), (a_md_isGoal, .inl (cZ, 4096, .inl md_isGoal)), (a_md_levels, .inl (cI, 4096, .inl md_levels)), (a_md_marked, .inl (cZ, 4096, .inl (upd md_marked_23 (x3_18 : Int32).toNatClampNeg (vp_nar .boolean 0))))] H := hP
                              have hD : va_D A [(a_md, .inr (11, [.ref a_md_tape, .int md_size, .int md_at, .int md_token, .int md_tokenPlace, .int md_number, .int md_sign, .int md_bad, .int md_faultPlace, .int md_place, .ref a_md_acts, .ref a_md_actNumbers, .ref a_md_actCounts, .int md_bank, .int md_unaries, .int md_opens, .ref a_md_pile, .int md_piled, .int md_loop, .ref a_md_begins, .ref a_md_goals, .ref a_md_ranks, .ref a_md_choiceCounts, .ref a_md_whens, .ref a_md_becomes, .ref a_md_guessCounts, .ref a_md_guesses, .ref a_md_unaryCounts, .ref a_md_stack, .ref a_md_nexts, .ref a_md_isBegin, .ref a_md_isGoal, .ref a_md_levels, .ref a_md_queue, .ref a_md_hasGuesses, .int md_keptBits, .ref a_md_rounds, .ref a_md_marked, .ref a_md_other, .ref a_md_heights])), (a_md_nexts, .inl (cI, 24576, .inl md_nexts)), (a_md_isGoal, .inl (cZ, 4096, .inl md_isGoal)), (a_md_levels, .inl (cI, 4096, .inl md_levels)), (a_md_marked, .inl (cZ, 4096, .inl (upd md_marked_23 (x3_18 : Int32).toNatClampNeg (vp_nar .boolean 0))))] := hD
                              refine lv_iinc (v := x4_22 + 1) (lv' := [(4, .int (x4_22 + 1)), (5, .int x5_26), (0, .ref a_md), (1, .int x1_7), (2, .int x2_14), (3, .int x3_18)]) hx hb d_Md_markRuns_208 hl (k := 5) rfl rfl (by decide) rfl (fun ls hl => ?_)
                              refine lv_goto (tgt := 129) hx hb d_Md_markRuns_211 (by decide) ?_
                              exact il _ _ h _ _ hP hD hS _ (lv_sub hl [2, 3, 4, 5, 0] rfl)
                            · have h := And.right h c_199
                              refine lv_iconst (v := 1) hx hb d_Md_markRuns_202 (by decide) ?_
                              refine lv_goto (tgt := 207) hx hb d_Md_markRuns_203 (by decide) ?_
                              obtain ⟨hin_207, h⟩ := h
                              refine va_zast hx hb hK hP hD hS 4 2 rfl rfl hin_207 d_Md_markRuns_207 (fun H locs hP hD hS => ?_)
                              have hP : va_P (dC, dI) vwCl [(a_md, .inr (11, [.ref a_md_tape, .int md_size, .int md_at, .int md_token, .int md_tokenPlace, .int md_number, .int md_sign, .int md_bad, .int md_faultPlace, .int md_place, .ref a_md_acts, .ref a_md_actNumbers, .ref a_md_actCounts, .int md_bank, .int md_unaries, .int md_opens, .ref a_md_pile, .int md_piled, .int md_loop, .ref a_md_begins, .ref a_md_goals, .ref a_md_ranks, .ref a_md_choiceCounts, .ref a_md_whens, .ref a_md_becomes, .ref a_md_guessCounts, .ref a_md_guesses, .ref a_md_unaryCounts, .ref a_md_stack, .ref a_md_nexts, .ref a_md_isBegin, .ref a_md_isGoal, .ref a_md_levels, .ref a_md_queue, .ref a_md_hasGuesses, .int md_keptBits, .ref a_md_rounds, .ref a_md_marked, .ref a_md_other, .ref a_md_heights])), (a_md_nexts, .inl (cI, 24576, .inl md_nexts)), (a_md_isGoal, .inl (cZ, 4096, .inl md_isGoal)), (a_md_levels, .inl (cI, 4096, .inl md_levels)), (a_md_marked, .inl (cZ, 4096, .inl (upd md_marked_23 (x3_18 : Int32).toNatClampNeg (vp_nar .boolean 1))))] H := hP
                              have hD : va_D A [(a_md, .inr (11, [.ref a_md_tape, .int md_size, .int md_at, .int md_token, .int md_tokenPlace, .int md_number, .int md_sign, .int md_bad, .int md_faultPlace, .int md_place, .ref a_md_acts, .ref a_md_actNumbers, .ref a_md_actCounts, .int md_bank, .int md_unaries, .int md_opens, .ref a_md_pile, .int md_piled, .int md_loop, .ref a_md_begins, .ref a_md_goals, .ref a_md_ranks, .ref a_md_choiceCounts, .ref a_md_whens, .ref a_md_becomes, .ref a_md_guessCounts, .ref a_md_guesses, .ref a_md_unaryCounts, .ref a_md_stack, .ref a_md_nexts, .ref a_md_isBegin, .ref a_md_isGoal, .ref a_md_levels, .ref a_md_queue, .ref a_md_hasGuesses, .int md_keptBits, .ref a_md_rounds, .ref a_md_marked, .ref a_md_other, .ref a_md_heights])), (a_md_nexts, .inl (cI, 24576, .inl md_nexts)), (a_md_isGoal, .inl (cZ, 4096, .inl md_isGoal)), (a_md_levels, .inl (cI, 4096, .inl md_levels)), (a_md_marked, .inl (cZ, 4096, .inl (upd md_marked_23 (x3_18 : Int32).toNatClampNeg (vp_nar .boolean 1))))] := hD
                              refine lv_iinc (v := x4_22 + 1) (lv' := [(4, .int (x4_22 + 1)), (5, .int x5_26), (0, .ref a_md), (1, .int x1_7), (2, .int x2_14), (3, .int x3_18)]) hx hb d_Md_markRuns_208 hl (k := 5) rfl rfl (by decide) rfl (fun ls hl => ?_)
                              refine lv_goto (tgt := 129) hx hb d_Md_markRuns_211 (by decide) ?_
                              exact il _ _ h _ _ hP hD hS _ (lv_sub hl [2, 3, 4, 5, 0] rfl)
              obtain ⟨n_, h⟩ := h
              refine L129_q_24 _ ?_ n_ _ _ h _ _ hP hD hS _ (lv_sub hl [1, 2, 3, 4, 0] rfl)
              intro md_marked_27 h H locs hP hD hS ls hl
              refine lv_iinc (v := x3_18 + 1) (lv' := [(3, .int (x3_18 + 1)), (0, .ref a_md), (1, .int x1_7), (2, .int x2_14)]) hx hb d_Md_markRuns_214 hl (k := 3) rfl rfl (by decide) rfl (fun ls hl => ?_)
              refine lv_goto (tgt := 119) hx hb d_Md_markRuns_217 (by decide) ?_
              exact il _ _ h _ _ hP hD hS _ (lv_sub hl [1, 2, 3, 0] rfl)
        obtain ⟨n_, h⟩ := h
        refine L119_q_20 _ ?_ n_ _ _ h _ _ hP hD hS _ (lv_sub hl [1, 2, 3, 0] rfl)
        intro md_marked_28 h H locs hP hD hS ls hl
        refine lv_iinc (v := x2_14 + (-1)) (lv' := [(2, .int (x2_14 + (-1))), (0, .ref a_md), (1, .int x1_7)]) hx hb d_Md_markRuns_220 hl (k := 2) rfl rfl (by decide) rfl (fun ls hl => ?_)
        refine lv_goto (tgt := 113) hx hb d_Md_markRuns_223 (by decide) ?_
        exact il _ _ h _ _ hP hD hS _ (lv_sub hl [1, 2, 0] rfl)
  obtain ⟨n_, h⟩ := h
  refine L113_q_16 _ ?_ n_ _ _ h _ _ hP hD hS _ (lv_sub hl [1, 2, 0] rfl)
  intro md_marked_29 h H locs hP hD hS ls hl
  refine lv_iload_n hx hb d_Md_markRuns_226 rfl (lv_at hl 0 rfl) ?_
  rw [← hQ]
  have hP9 := hP
  have hD9 := hD
  exact W.iret (v := x1_7) hx hb hr (fun t ht hW => ⟨⟨x1_7, (md_marked_29), rfl, h, by rw [ht]; exact hP9, va_K.moved hW.alike hK, hD9⟩, hS.F ht⟩) hS.2.2 d_Md_markRuns_227
