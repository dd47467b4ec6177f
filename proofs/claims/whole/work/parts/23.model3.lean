theorem dX10_excepts_0 : decode cX10_excepts 0 = .ok (.aload_n 0, 1) := by decide +kernel
theorem dX10_excepts_1 : decode cX10_excepts 1 = .ok (.aload_n 0, 1) := by decide +kernel
theorem dX10_excepts_2 : decode cX10_excepts 2 = .ok (.iload_n 1, 1) := by decide +kernel
theorem dX10_excepts_3 : decode cX10_excepts 3 = .ok (.invokevirtual 75, 3) := by decide +kernel
theorem dX10_excepts_6 : decode cX10_excepts 6 = .ok (.ifCond .ne 7, 3) := by decide +kernel
theorem dX10_excepts_13 : decode cX10_excepts 13 = .ok (.iconst 0, 1) := by decide +kernel
theorem dX10_excepts_14 : decode cX10_excepts 14 = .ok (.iconst 1, 1) := by decide +kernel
theorem dX10_excepts_15 : decode cX10_excepts 15 = .ok (.invokevirtual 63, 3) := by decide +kernel
theorem dX10_excepts_18 : decode cX10_excepts 18 = .ok (.ifCond .ne 81, 3) := by decide +kernel
theorem dX10_excepts_21 : decode cX10_excepts 21 = .ok (.aload_n 0, 1) := by decide +kernel
theorem dX10_excepts_22 : decode cX10_excepts 22 = .ok (.iload_n 2, 1) := by decide +kernel
theorem dX10_excepts_23 : decode cX10_excepts 23 = .ok (.iconst 0, 1) := by decide +kernel
theorem dX10_excepts_24 : decode cX10_excepts 24 = .ok (.sipush 999, 3) := by decide +kernel
theorem dX10_excepts_27 : decode cX10_excepts 27 = .ok (.invokestatic 48, 3) := by decide +kernel
theorem dX10_excepts_30 : decode cX10_excepts 30 = .ok (.ifCond .ne 7, 3) := by decide +kernel
theorem dX10_excepts_37 : decode cX10_excepts 37 = .ok (.iconst 0, 1) := by decide +kernel
theorem dX10_excepts_38 : decode cX10_excepts 38 = .ok (.iconst 2, 1) := by decide +kernel
theorem dX10_excepts_39 : decode cX10_excepts 39 = .ok (.invokevirtual 63, 3) := by decide +kernel
theorem dX10_excepts_42 : decode cX10_excepts 42 = .ok (.ifCond .ne 57, 3) := by decide +kernel
theorem dX10_excepts_45 : decode cX10_excepts 45 = .ok (.aload_n 0, 1) := by decide +kernel
theorem dX10_excepts_46 : decode cX10_excepts 46 = .ok (.iload_n 2, 1) := by decide +kernel
theorem dX10_excepts_47 : decode cX10_excepts 47 = .ok (.aload_n 0, 1) := by decide +kernel
theorem dX10_excepts_48 : decode cX10_excepts 48 = .ok (.invokevirtual 85, 3) := by decide +kernel
theorem u_1788 : Cond.methodLink RX10 85 yX10_today ∈ UW := uw 1788 (by decide +kernel) rfl
theorem u_1790 : Cond.instanceMethod yX10_today ∈ UW := uw 1790 (by decide +kernel) rfl
theorem u_27 : Cond.selects RX10 yX10_today yX10_today ∈ UW := uw 27 (by decide +kernel) rfl
theorem u_1791 : Cond.code yX10_today cX10_today 1 (some .int) ∈ UW := uw 1791 (by decide +kernel) rfl
theorem g_X10_85 : GoodIn UW (wsV RX10 85 RX10 yX10_today (wsU yX10_today cX10_today 1 (some .int))) := gV u_1788 u_1790 u_27 u_77 u_1791
theorem hdv_X10_today : yX10_today.cls = RX10 ∧ yX10_today.cls ≠ "java/lang/invoke/MethodHandle" ∧ yX10_today.cls ≠ "java/lang/invoke/VarHandle" ∧ (parseMethodDescriptor yX10_today.desc).map (fun d => d.parameters.length) = some 0 := by decide +kernel
theorem dX10_excepts_51 : decode cX10_excepts 51 = .ok (.if_icmp .ge 7, 3) := by decide +kernel
theorem dX10_excepts_58 : decode cX10_excepts 58 = .ok (.iconst 0, 1) := by decide +kernel
theorem dX10_excepts_59 : decode cX10_excepts 59 = .ok (.iconst 3, 1) := by decide +kernel
theorem dX10_excepts_60 : decode cX10_excepts 60 = .ok (.invokevirtual 63, 3) := by decide +kernel
theorem dX10_excepts_63 : decode cX10_excepts 63 = .ok (.ifCond .ne 36, 3) := by decide +kernel
theorem dX10_excepts_66 : decode cX10_excepts 66 = .ok (.aload_n 0, 1) := by decide +kernel
theorem dX10_excepts_67 : decode cX10_excepts 67 = .ok (.aload_n 0, 1) := by decide +kernel
theorem dX10_excepts_68 : decode cX10_excepts 68 = .ok (.iload_n 1, 1) := by decide +kernel
theorem dX10_excepts_69 : decode cX10_excepts 69 = .ok (.iload_n 2, 1) := by decide +kernel
theorem dX10_excepts_70 : decode cX10_excepts 70 = .ok (.invokevirtual 89, 3) := by decide +kernel
theorem u_1792 : Cond.methodLink RX10 89 yX10_place ∈ UW := uw 1792 (by decide +kernel) rfl
theorem u_1794 : Cond.instanceMethod yX10_place ∈ UW := uw 1794 (by decide +kernel) rfl
theorem u_28 : Cond.selects RX10 yX10_place yX10_place ∈ UW := uw 28 (by decide +kernel) rfl
theorem u_1795 : Cond.code yX10_place cX10_place 4 (some .int) ∈ UW := uw 1795 (by decide +kernel) rfl
theorem g_X10_89 : GoodIn UW (wsV RX10 89 RX10 yX10_place (wsU yX10_place cX10_place 4 (some .int))) := gV u_1792 u_1794 u_28 u_77 u_1795
theorem hdv_X10_place : yX10_place.cls = RX10 ∧ yX10_place.cls ≠ "java/lang/invoke/MethodHandle" ∧ yX10_place.cls ≠ "java/lang/invoke/VarHandle" ∧ (parseMethodDescriptor yX10_place.desc).map (fun d => d.parameters.length) = some 2 := by decide +kernel
theorem dX10_excepts_73 : decode cX10_excepts 73 = .ok (.ifCond .ge 14, 3) := by decide +kernel
theorem dX10_excepts_87 : decode cX10_excepts 87 = .ok (.iconst 1, 1) := by decide +kernel
theorem dX10_excepts_88 : decode cX10_excepts 88 = .ok (.goto 4, 3) := by decide +kernel
theorem dX10_excepts_92 : decode cX10_excepts 92 = .ok (.iconst 4, 1) := by decide +kernel
theorem dX10_excepts_93 : decode cX10_excepts 93 = .ok (.invokevirtual 63, 3) := by decide +kernel
theorem dX10_excepts_96 : decode cX10_excepts 96 = .ok (.ifCond .eq 5, 3) := by decide +kernel
theorem dX10_excepts_99 : decode cX10_excepts 99 = .ok (.iconst 0, 1) := by decide +kernel
theorem dX10_excepts_100 : decode cX10_excepts 100 = .ok (.ireturn, 1) := by decide +kernel
theorem dX10_excepts_76 : decode cX10_excepts 76 = .ok (.aload_n 0, 1) := by decide +kernel
theorem dX10_excepts_77 : decode cX10_excepts 77 = .ok (.getfield 9, 3) := by decide +kernel
theorem dX10_excepts_80 : decode cX10_excepts 80 = .ok (.iconst 4, 1) := by decide +kernel
theorem dX10_excepts_81 : decode cX10_excepts 81 = .ok (.iaload, 1) := by decide +kernel
theorem dX10_excepts_82 : decode cX10_excepts 82 = .ok (.bipush 12, 2) := by decide +kernel
theorem dX10_excepts_84 : decode cX10_excepts 84 = .ok (.if_icmp .ne 7, 3) := by decide +kernel
theorem dX10_excepts_91 : decode cX10_excepts 91 = .ok (.iconst 0, 1) := by decide +kernel
theorem dX10_excepts_101 : decode cX10_excepts 101 = .ok (.aload_n 0, 1) := by decide +kernel
theorem dX10_excepts_102 : decode cX10_excepts 102 = .ok (.getfield 9, 3) := by decide +kernel
theorem dX10_excepts_105 : decode cX10_excepts 105 = .ok (.iconst 4, 1) := by decide +kernel
theorem dX10_excepts_106 : decode cX10_excepts 106 = .ok (.iaload, 1) := by decide +kernel
theorem dX10_excepts_107 : decode cX10_excepts 107 = .ok (.istore 4, 2) := by decide +kernel
theorem dX10_excepts_109 : decode cX10_excepts 109 = .ok (.iload 4, 2) := by decide +kernel
theorem dX10_excepts_111 : decode cX10_excepts 111 = .ok (.ifCond .le 88, 3) := by decide +kernel
theorem dX10_excepts_199 : decode cX10_excepts 199 = .ok (.aload_n 0, 1) := by decide +kernel
theorem dX10_excepts_200 : decode cX10_excepts 200 = .ok (.getfield 9, 3) := by decide +kernel
theorem dX10_excepts_203 : decode cX10_excepts 203 = .ok (.bipush 55, 2) := by decide +kernel
theorem dX10_excepts_205 : decode cX10_excepts 205 = .ok (.iconst 3, 1) := by decide +kernel
theorem dX10_excepts_206 : decode cX10_excepts 206 = .ok (.iload 4, 2) := by decide +kernel
theorem dX10_excepts_208 : decode cX10_excepts 208 = .ok (.imul, 1) := by decide +kernel
theorem dX10_excepts_209 : decode cX10_excepts 209 = .ok (.iadd, 1) := by decide +kernel
theorem dX10_excepts_210 : decode cX10_excepts 210 = .ok (.iconst 0, 1) := by decide +kernel
theorem dX10_excepts_211 : decode cX10_excepts 211 = .ok (.iadd, 1) := by decide +kernel
theorem dX10_excepts_212 : decode cX10_excepts 212 = .ok (.iload_n 2, 1) := by decide +kernel
theorem dX10_excepts_213 : decode cX10_excepts 213 = .ok (.iastore, 1) := by decide +kernel
theorem dX10_excepts_214 : decode cX10_excepts 214 = .ok (.aload_n 0, 1) := by decide +kernel
theorem dX10_excepts_215 : decode cX10_excepts 215 = .ok (.getfield 9, 3) := by decide +kernel
theorem dX10_excepts_218 : decode cX10_excepts 218 = .ok (.bipush 55, 2) := by decide +kernel
theorem dX10_excepts_220 : decode cX10_excepts 220 = .ok (.iconst 3, 1) := by decide +kernel
theorem dX10_excepts_221 : decode cX10_excepts 221 = .ok (.iload 4, 2) := by decide +kernel
theorem dX10_excepts_223 : decode cX10_excepts 223 = .ok (.imul, 1) := by decide +kernel
theorem dX10_excepts_224 : decode cX10_excepts 224 = .ok (.iadd, 1) := by decide +kernel
theorem dX10_excepts_225 : decode cX10_excepts 225 = .ok (.iconst 1, 1) := by decide +kernel
theorem dX10_excepts_226 : decode cX10_excepts 226 = .ok (.iadd, 1) := by decide +kernel
theorem dX10_excepts_227 : decode cX10_excepts 227 = .ok (.iload_n 1, 1) := by decide +kernel
theorem dX10_excepts_228 : decode cX10_excepts 228 = .ok (.iastore, 1) := by decide +kernel
theorem dX10_excepts_229 : decode cX10_excepts 229 = .ok (.aload_n 0, 1) := by decide +kernel
theorem dX10_excepts_230 : decode cX10_excepts 230 = .ok (.getfield 9, 3) := by decide +kernel
theorem dX10_excepts_233 : decode cX10_excepts 233 = .ok (.bipush 55, 2) := by decide +kernel
theorem dX10_excepts_235 : decode cX10_excepts 235 = .ok (.iconst 3, 1) := by decide +kernel
theorem dX10_excepts_236 : decode cX10_excepts 236 = .ok (.iload 4, 2) := by decide +kernel
theorem dX10_excepts_238 : decode cX10_excepts 238 = .ok (.imul, 1) := by decide +kernel
theorem dX10_excepts_239 : decode cX10_excepts 239 = .ok (.iadd, 1) := by decide +kernel
theorem dX10_excepts_240 : decode cX10_excepts 240 = .ok (.iconst 2, 1) := by decide +kernel
theorem dX10_excepts_241 : decode cX10_excepts 241 = .ok (.iadd, 1) := by decide +kernel
theorem dX10_excepts_242 : decode cX10_excepts 242 = .ok (.iload_n 3, 1) := by decide +kernel
theorem dX10_excepts_243 : decode cX10_excepts 243 = .ok (.iastore, 1) := by decide +kernel
theorem dX10_excepts_244 : decode cX10_excepts 244 = .ok (.aload_n 0, 1) := by decide +kernel
theorem dX10_excepts_245 : decode cX10_excepts 245 = .ok (.getfield 9, 3) := by decide +kernel
theorem dX10_excepts_248 : decode cX10_excepts 248 = .ok (.iconst 4, 1) := by decide +kernel
theorem dX10_excepts_249 : decode cX10_excepts 249 = .ok (.dup2, 1) := by decide +kernel
theorem dX10_excepts_250 : decode cX10_excepts 250 = .ok (.iaload, 1) := by decide +kernel
theorem dX10_excepts_251 : decode cX10_excepts 251 = .ok (.iconst 1, 1) := by decide +kernel
theorem dX10_excepts_252 : decode cX10_excepts 252 = .ok (.iadd, 1) := by decide +kernel
theorem dX10_excepts_253 : decode cX10_excepts 253 = .ok (.iastore, 1) := by decide +kernel
theorem dX10_excepts_254 : decode cX10_excepts 254 = .ok (.aload_n 0, 1) := by decide +kernel
theorem dX10_excepts_255 : decode cX10_excepts 255 = .ok (.getfield 9, 3) := by decide +kernel
theorem dX10_excepts_258 : decode cX10_excepts 258 = .ok (.iconst 4, 1) := by decide +kernel
theorem dX10_excepts_259 : decode cX10_excepts 259 = .ok (.iaload, 1) := by decide +kernel
theorem dX10_excepts_260 : decode cX10_excepts 260 = .ok (.ireturn, 1) := by decide +kernel
theorem dX10_excepts_114 : decode cX10_excepts 114 = .ok (.aload_n 0, 1) := by decide +kernel
theorem dX10_excepts_115 : decode cX10_excepts 115 = .ok (.iload 4, 2) := by decide +kernel
theorem dX10_excepts_117 : decode cX10_excepts 117 = .ok (.iconst 1, 1) := by decide +kernel
theorem dX10_excepts_118 : decode cX10_excepts 118 = .ok (.isub, 1) := by decide +kernel
theorem dX10_excepts_119 : decode cX10_excepts 119 = .ok (.iconst 0, 1) := by decide +kernel
theorem dX10_excepts_120 : decode cX10_excepts 120 = .ok (.invokevirtual 82, 3) := by decide +kernel
theorem dX10_excepts_123 : decode cX10_excepts 123 = .ok (.iload_n 2, 1) := by decide +kernel
theorem dX10_excepts_124 : decode cX10_excepts 124 = .ok (.if_icmp .gt 29, 3) := by decide +kernel
theorem dX10_excepts_153 : decode cX10_excepts 153 = .ok (.iconst 0, 1) := by decide +kernel
theorem dX10_excepts_154 : decode cX10_excepts 154 = .ok (.istore 5, 2) := by decide +kernel
theorem dX10_excepts_156 : decode cX10_excepts 156 = .ok (.iload 5, 2) := by decide +kernel
theorem dX10_excepts_158 : decode cX10_excepts 158 = .ok (.iconst 3, 1) := by decide +kernel
theorem dX10_excepts_159 : decode cX10_excepts 159 = .ok (.if_icmp .ge 34, 3) := by decide +kernel
theorem dX10_excepts_162 : decode cX10_excepts 162 = .ok (.aload_n 0, 1) := by decide +kernel
theorem dX10_excepts_163 : decode cX10_excepts 163 = .ok (.getfield 9, 3) := by decide +kernel
theorem dX10_excepts_166 : decode cX10_excepts 166 = .ok (.bipush 55, 2) := by decide +kernel
theorem dX10_excepts_168 : decode cX10_excepts 168 = .ok (.iconst 3, 1) := by decide +kernel
theorem dX10_excepts_169 : decode cX10_excepts 169 = .ok (.iload 4, 2) := by decide +kernel
theorem dX10_excepts_171 : decode cX10_excepts 171 = .ok (.imul, 1) := by decide +kernel
theorem dX10_excepts_172 : decode cX10_excepts 172 = .ok (.iadd, 1) := by decide +kernel
theorem dX10_excepts_173 : decode cX10_excepts 173 = .ok (.iload 5, 2) := by decide +kernel
theorem dX10_excepts_175 : decode cX10_excepts 175 = .ok (.iadd, 1) := by decide +kernel
theorem dX10_excepts_176 : decode cX10_excepts 176 = .ok (.aload_n 0, 1) := by decide +kernel
theorem dX10_excepts_177 : decode cX10_excepts 177 = .ok (.iload 4, 2) := by decide +kernel
theorem dX10_excepts_179 : decode cX10_excepts 179 = .ok (.iconst 1, 1) := by decide +kernel
theorem dX10_excepts_180 : decode cX10_excepts 180 = .ok (.isub, 1) := by decide +kernel
theorem dX10_excepts_181 : decode cX10_excepts 181 = .ok (.iload 5, 2) := by decide +kernel
theorem dX10_excepts_183 : decode cX10_excepts 183 = .ok (.invokevirtual 82, 3) := by decide +kernel
theorem dX10_excepts_186 : decode cX10_excepts 186 = .ok (.iastore, 1) := by decide +kernel
theorem dX10_excepts_187 : decode cX10_excepts 187 = .ok (.iinc 5 1, 3) := by decide +kernel
theorem dX10_excepts_190 : decode cX10_excepts 190 = .ok (.goto (-34), 3) := by decide +kernel
theorem dX10_excepts_193 : decode cX10_excepts 193 = .ok (.iinc 4 (-1), 3) := by decide +kernel
theorem dX10_excepts_196 : decode cX10_excepts 196 = .ok (.goto (-87), 3) := by decide +kernel
theorem dX10_excepts_127 : decode cX10_excepts 127 = .ok (.aload_n 0, 1) := by decide +kernel
theorem dX10_excepts_128 : decode cX10_excepts 128 = .ok (.iload 4, 2) := by decide +kernel
theorem dX10_excepts_130 : decode cX10_excepts 130 = .ok (.iconst 1, 1) := by decide +kernel
theorem dX10_excepts_131 : decode cX10_excepts 131 = .ok (.isub, 1) := by decide +kernel
theorem dX10_excepts_132 : decode cX10_excepts 132 = .ok (.iconst 0, 1) := by decide +kernel
theorem dX10_excepts_133 : decode cX10_excepts 133 = .ok (.invokevirtual 82, 3) := by decide +kernel
theorem dX10_excepts_136 : decode cX10_excepts 136 = .ok (.iload_n 2, 1) := by decide +kernel
theorem dX10_excepts_137 : decode cX10_excepts 137 = .ok (.if_icmp .ne 62, 3) := by decide +kernel
theorem dX10_excepts_140 : decode cX10_excepts 140 = .ok (.aload_n 0, 1) := by decide +kernel
theorem dX10_excepts_141 : decode cX10_excepts 141 = .ok (.iload 4, 2) := by decide +kernel
theorem dX10_excepts_143 : decode cX10_excepts 143 = .ok (.iconst 1, 1) := by decide +kernel
theorem dX10_excepts_144 : decode cX10_excepts 144 = .ok (.isub, 1) := by decide +kernel
theorem dX10_excepts_145 : decode cX10_excepts 145 = .ok (.iconst 1, 1) := by decide +kernel
theorem dX10_excepts_146 : decode cX10_excepts 146 = .ok (.invokevirtual 82, 3) := by decide +kernel
theorem dX10_excepts_149 : decode cX10_excepts 149 = .ok (.iload_n 1, 1) := by decide +kernel
theorem dX10_excepts_150 : decode cX10_excepts 150 = .ok (.if_icmp .le 49, 3) := by decide +kernel
theorem dX10_excepts_54 : decode cX10_excepts 54 = .ok (.iconst 1, 1) := by decide +kernel
theorem dX10_excepts_55 : decode cX10_excepts 55 = .ok (.goto 4, 3) := by decide +kernel
theorem dX10_excepts_33 : decode cX10_excepts 33 = .ok (.iconst 1, 1) := by decide +kernel
theorem dX10_excepts_34 : decode cX10_excepts 34 = .ok (.goto 4, 3) := by decide +kernel
theorem dX10_excepts_9 : decode cX10_excepts 9 = .ok (.iconst 1, 1) := by decide +kernel
theorem dX10_excepts_10 : decode cX10_excepts 10 = .ok (.goto 4, 3) := by decide +kernel
def lp_X10_excepts_156 (d : MoV) (dr : Int32) (dy : Int32) (op : Int32) (u_4 : MoV) (u_9 : MoV) (u_14 : MoV) (u_24 : MoV) (x4 : Int32) (dL : MoV) : Nat → Int32 → MoV → Int32 × MoV
  | 0, x5, dL' => (x5, dL')
  | n + 1, x5, dL' => (if (3 : Int32) ≤ x5 then (x5, dL') else (lp_X10_excepts_156 d dr dy op u_4 u_9 u_14 u_24 x4 dL n (x5 + 1) (mo0 dL' (upd dL'.1 (((55 : Int32) + ((3 : Int32) * x4)) + x5).toNatClampNeg (f_X10_ofException dL' (x4 - (1 : Int32)) x5)))))
def okl_lp_X10_excepts_156 (d : MoV) (dr : Int32) (dy : Int32) (op : Int32) (u_4 : MoV) (u_9 : MoV) (u_14 : MoV) (u_24 : MoV) (x4 : Int32) (dL : MoV) : Nat → Int32 → MoV → Prop
  | 0, _, _ => True
  | n + 1, x5, dL' => (if (3 : Int32) ≤ x5 then True else (ok_X10_ofException dL' (x4 - (1 : Int32)) x5 ∧ (vp_in (((55 : Int32) + ((3 : Int32) * x4)) + x5) 249 ∧ (okl_lp_X10_excepts_156 d dr dy op u_4 u_9 u_14 u_24 x4 dL n (x5 + 1) (mo0 dL' (upd dL'.1 (((55 : Int32) + ((3 : Int32) * x4)) + x5).toNatClampNeg (f_X10_ofException dL' (x4 - (1 : Int32)) x5)))))))
def lp_X10_excepts_156' (d : MoV) (dr : Int32) (dy : Int32) (op : Int32) (u_4 : MoV) (u_9 : MoV) (u_14 : MoV) (u_24 : MoV) (x4 : Int32) (dL : MoV) : Nat → Int32 → MoV → Int32 × MoV
  | 0, x5, dL' => (x5, dL')
  | n + 1, x5, dL' => (if (3 : Int32) ≤ x5 then (x5, dL') else (lp_X10_excepts_156' d dr dy op u_4 u_9 u_14 u_24 x4 dL n (x5 + 1) (mo0 dL' (upd dL'.1 (((55 : Int32) + ((3 : Int32) * x4)) + x5).toNatClampNeg (f_X10_ofException dL' (x4 - (1 : Int32)) x5)))))
def okl_lp_X10_excepts_156' (d : MoV) (dr : Int32) (dy : Int32) (op : Int32) (u_4 : MoV) (u_9 : MoV) (u_14 : MoV) (u_24 : MoV) (x4 : Int32) (dL : MoV) : Nat → Int32 → MoV → Prop
  | 0, _, _ => True
  | n + 1, x5, dL' => (if (3 : Int32) ≤ x5 then True else (ok_X10_ofException dL' (x4 - (1 : Int32)) x5 ∧ (vp_in (((55 : Int32) + ((3 : Int32) * x4)) + x5) 249 ∧ (okl_lp_X10_excepts_156' d dr dy op u_4 u_9 u_14 u_24 x4 dL n (x5 + 1) (mo0 dL' (upd dL'.1 (((55 : Int32) + ((3 : Int32) * x4)) + x5).toNatClampNeg (f_X10_ofException dL' (x4 - (1 : Int32)) x5)))))))
def lp_X10_excepts_109 (d : MoV) (dr : Int32) (dy : Int32) (op : Int32) (u_4 : MoV) (u_9 : MoV) (u_14 : MoV) (u_24 : MoV) : Nat → Int32 → MoV → Int32 × MoV
  | 0, _, _ => (0, d)
  | n + 1, x4, dL => (if x4 ≤ (0 : Int32) then (((upd (upd (upd (upd dL.1 (((55 : Int32) + ((3 : Int32) * x4)) + (0 : Int32)).toNatClampNeg dy) (((55 : Int32) + ((3 : Int32) * x4)) + (1 : Int32)).toNatClampNeg dr) (((55 : Int32) + ((3 : Int32) * x4)) + (2 : Int32)).toNatClampNeg op) (4 : Int32).toNatClampNeg (((upd (upd (upd dL.1 (((55 : Int32) + ((3 : Int32) * x4)) + (0 : Int32)).toNatClampNeg dy) (((55 : Int32) + ((3 : Int32) * x4)) + (1 : Int32)).toNatClampNeg dr) (((55 : Int32) + ((3 : Int32) * x4)) + (2 : Int32)).toNatClampNeg op) (4 : Int32).toNatClampNeg) + (1 : Int32))) (4 : Int32).toNatClampNeg), (mo0 dL (upd (upd (upd (upd dL.1 (((55 : Int32) + ((3 : Int32) * x4)) + (0 : Int32)).toNatClampNeg dy) (((55 : Int32) + ((3 : Int32) * x4)) + (1 : Int32)).toNatClampNeg dr) (((55 : Int32) + ((3 : Int32) * x4)) + (2 : Int32)).toNatClampNeg op) (4 : Int32).toNatClampNeg (((upd (upd (upd dL.1 (((55 : Int32) + ((3 : Int32) * x4)) + (0 : Int32)).toNatClampNeg dy) (((55 : Int32) + ((3 : Int32) * x4)) + (1 : Int32)).toNatClampNeg dr) (((55 : Int32) + ((3 : Int32) * x4)) + (2 : Int32)).toNatClampNeg op) (4 : Int32).toNatClampNeg) + (1 : Int32))))) else (if dy < (f_X10_ofException dL (x4 - (1 : Int32)) (0 : Int32)) then (let r_37 : Int32 × MoV := (lp_X10_excepts_156 d dr dy op u_4 u_9 u_14 u_24 x4 dL ((((3 : Int32)).toInt - ((0 : Int32)).toInt).toNat + 1) (0 : Int32) dL); (lp_X10_excepts_109 d dr dy op u_4 u_9 u_14 u_24 n (x4 + (-1)) r_37.2)) else (if (f_X10_ofException dL (x4 - (1 : Int32)) (0 : Int32)) = dy then (if (f_X10_ofException dL (x4 - (1 : Int32)) (1 : Int32)) ≤ dr then (((upd (upd (upd (upd dL.1 (((55 : Int32) + ((3 : Int32) * x4)) + (0 : Int32)).toNatClampNeg dy) (((55 : Int32) + ((3 : Int32) * x4)) + (1 : Int32)).toNatClampNeg dr) (((55 : Int32) + ((3 : Int32) * x4)) + (2 : Int32)).toNatClampNeg op) (4 : Int32).toNatClampNeg (((upd (upd (upd dL.1 (((55 : Int32) + ((3 : Int32) * x4)) + (0 : Int32)).toNatClampNeg dy) (((55 : Int32) + ((3 : Int32) * x4)) + (1 : Int32)).toNatClampNeg dr) (((55 : Int32) + ((3 : Int32) * x4)) + (2 : Int32)).toNatClampNeg op) (4 : Int32).toNatClampNeg) + (1 : Int32))) (4 : Int32).toNatClampNeg), (mo0 dL (upd (upd (upd (upd dL.1 (((55 : Int32) + ((3 : Int32) * x4)) + (0 : Int32)).toNatClampNeg dy) (((55 : Int32) + ((3 : Int32) * x4)) + (1 : Int32)).toNatClampNeg dr) (((55 : Int32) + ((3 : Int32) * x4)) + (2 : Int32)).toNatClampNeg op) (4 : Int32).toNatClampNeg (((upd (upd (upd dL.1 (((55 : Int32) + ((3 : Int32) * x4)) + (0 : Int32)).toNatClampNeg dy) (((55 : Int32) + ((3 : Int32) * x4)) + (1 : Int32)).toNatClampNeg dr) (((55 : Int32) + ((3 : Int32) * x4)) + (2 : Int32)).toNatClampNeg op) (4 : Int32).toNatClampNeg) + (1 : Int32))))) else (let r_54 : Int32 × MoV := (lp_X10_excepts_156' d dr dy op u_4 u_9 u_14 u_24 x4 dL ((((3 : Int32)).toInt - ((0 : Int32)).toInt).toNat + 1) (0 : Int32) dL); (lp_X10_excepts_109 d dr dy op u_4 u_9 u_14 u_24 n (x4 + (-1)) r_54.2))) else (((upd (upd (upd (upd dL.1 (((55 : Int32) + ((3 : Int32) * x4)) + (0 : Int32)).toNatClampNeg dy) (((55 : Int32) + ((3 : Int32) * x4)) + (1 : Int32)).toNatClampNeg dr) (((55 : Int32) + ((3 : Int32) * x4)) + (2 : Int32)).toNatClampNeg op) (4 : Int32).toNatClampNeg (((upd (upd (upd dL.1 (((55 : Int32) + ((3 : Int32) * x4)) + (0 : Int32)).toNatClampNeg dy) (((55 : Int32) + ((3 : Int32) * x4)) + (1 : Int32)).toNatClampNeg dr) (((55 : Int32) + ((3 : Int32) * x4)) + (2 : Int32)).toNatClampNeg op) (4 : Int32).toNatClampNeg) + (1 : Int32))) (4 : Int32).toNatClampNeg), (mo0 dL (upd (upd (upd (upd dL.1 (((55 : Int32) + ((3 : Int32) * x4)) + (0 : Int32)).toNatClampNeg dy) (((55 : Int32) + ((3 : Int32) * x4)) + (1 : Int32)).toNatClampNeg dr) (((55 : Int32) + ((3 : Int32) * x4)) + (2 : Int32)).toNatClampNeg op) (4 : Int32).toNatClampNeg (((upd (upd (upd dL.1 (((55 : Int32) + ((3 : Int32) * x4)) + (0 : Int32)).toNatClampNeg dy) (((55 : Int32) + ((3 : Int32) * x4)) + (1 : Int32)).toNatClampNeg dr) (((55 : Int32) + ((3 : Int32) * x4)) + (2 : Int32)).toNatClampNeg op) (4 : Int32).toNatClampNeg) + (1 : Int32))))))))
def okl_lp_X10_excepts_109 (d : MoV) (dr : Int32) (dy : Int32) (op : Int32) (u_4 : MoV) (u_9 : MoV) (u_14 : MoV) (u_24 : MoV) : Nat → Int32 → MoV → Prop
  | 0, _, _ => True
  | n + 1, x4, dL => (if x4 ≤ (0 : Int32) then (vp_in (((55 : Int32) + ((3 : Int32) * x4)) + (0 : Int32)) 249 ∧ (vp_in (((55 : Int32) + ((3 : Int32) * x4)) + (1 : Int32)) 249 ∧ (vp_in (((55 : Int32) + ((3 : Int32) * x4)) + (2 : Int32)) 249 ∧ True))) else (ok_X10_ofException dL (x4 - (1 : Int32)) (0 : Int32) ∧ (if dy < (f_X10_ofException dL (x4 - (1 : Int32)) (0 : Int32)) then (okl_lp_X10_excepts_156 d dr dy op u_4 u_9 u_14 u_24 x4 dL ((((3 : Int32)).toInt - ((0 : Int32)).toInt).toNat + 1) (0 : Int32) dL ∧ (let r_37 : Int32 × MoV := (lp_X10_excepts_156 d dr dy op u_4 u_9 u_14 u_24 x4 dL ((((3 : Int32)).toInt - ((0 : Int32)).toInt).toNat + 1) (0 : Int32) dL); (okl_lp_X10_excepts_109 d dr dy op u_4 u_9 u_14 u_24 n (x4 + (-1)) r_37.2))) else (ok_X10_ofException dL (x4 - (1 : Int32)) (0 : Int32) ∧ (if (f_X10_ofException dL (x4 - (1 : Int32)) (0 : Int32)) = dy then (ok_X10_ofException dL (x4 - (1 : Int32)) (1 : Int32) ∧ (if (f_X10_ofException dL (x4 - (1 : Int32)) (1 : Int32)) ≤ dr then (vp_in (((55 : Int32) + ((3 : Int32) * x4)) + (0 : Int32)) 249 ∧ (vp_in (((55 : Int32) + ((3 : Int32) * x4)) + (1 : Int32)) 249 ∧ (vp_in (((55 : Int32) + ((3 : Int32) * x4)) + (2 : Int32)) 249 ∧ True))) else (okl_lp_X10_excepts_156' d dr dy op u_4 u_9 u_14 u_24 x4 dL ((((3 : Int32)).toInt - ((0 : Int32)).toInt).toNat + 1) (0 : Int32) dL ∧ (let r_54 : Int32 × MoV := (lp_X10_excepts_156' d dr dy op u_4 u_9 u_14 u_24 x4 dL ((((3 : Int32)).toInt - ((0 : Int32)).toInt).toNat + 1) (0 : Int32) dL); (okl_lp_X10_excepts_109 d dr dy op u_4 u_9 u_14 u_24 n (x4 + (-1)) r_54.2))))) else (vp_in (((55 : Int32) + ((3 : Int32) * x4)) + (0 : Int32)) 249 ∧ (vp_in (((55 : Int32) + ((3 : Int32) * x4)) + (1 : Int32)) 249 ∧ (vp_in (((55 : Int32) + ((3 : Int32) * x4)) + (2 : Int32)) 249 ∧ True))))))))
def f_X10_excepts (d : MoV) (dr : Int32) (dy : Int32) (op : Int32) : Int32 × MoV := (if (f_X10_isDoor d dr) = (0 : Int32) then (let u_65 : MoV := (f_X10_isThrown d (1 : Int32) (1 : Int32)); ((0 : Int32), u_65)) else (let u_4 : MoV := (f_X10_isThrown d (0 : Int32) (1 : Int32)); (if (f_X10_isIn dy (0 : Int32) (999 : Int32)) = (0 : Int32) then (let u_62 : MoV := (f_X10_isThrown u_4 (1 : Int32) (2 : Int32)); ((0 : Int32), u_62)) else (let u_9 : MoV := (f_X10_isThrown u_4 (0 : Int32) (2 : Int32)); (if (f_X10_today u_9) ≤ dy then (let u_14 : MoV := (f_X10_isThrown u_9 (0 : Int32) (3 : Int32)); (if (0 : Int32) ≤ (f_X10_place u_14 dr dy) then (let u_20 : MoV := (f_X10_isThrown u_14 (1 : Int32) (4 : Int32)); ((0 : Int32), u_20)) else (if (u_14.1 (4 : Int32).toNatClampNeg) = (12 : Int32) then (let u_56 : MoV := (f_X10_isThrown u_14 (1 : Int32) (4 : Int32)); ((0 : Int32), u_56)) else (let u_24 : MoV := (f_X10_isThrown u_14 (0 : Int32) (4 : Int32)); (lp_X10_excepts_109 d dr dy op u_4 u_9 u_14 u_24 (((u_24.1 (4 : Int32).toNatClampNeg)).toInt.toNat + 1) (u_24.1 (4 : Int32).toNatClampNeg) u_24))))) else (let u_59 : MoV := (f_X10_isThrown u_9 (1 : Int32) (3 : Int32)); ((0 : Int32), u_59)))))))
def ok_X10_excepts (d : MoV) (dr : Int32) (dy : Int32) (op : Int32) : Prop := (if (f_X10_isDoor d dr) = (0 : Int32) then True else (let u_4 : MoV := (f_X10_isThrown d (0 : Int32) (1 : Int32)); (if (f_X10_isIn dy (0 : Int32) (999 : Int32)) = (0 : Int32) then True else (let u_9 : MoV := (f_X10_isThrown u_4 (0 : Int32) (2 : Int32)); (if (f_X10_today u_9) ≤ dy then (let u_14 : MoV := (f_X10_isThrown u_9 (0 : Int32) (3 : Int32)); (ok_X10_place u_14 dr dy ∧ (if (0 : Int32) ≤ (f_X10_place u_14 dr dy) then True else (if (u_14.1 (4 : Int32).toNatClampNeg) = (12 : Int32) then True else (let u_24 : MoV := (f_X10_isThrown u_14 (0 : Int32) (4 : Int32)); (okl_lp_X10_excepts_109 d dr dy op u_4 u_9 u_14 u_24 (((u_24.1 (4 : Int32).toNatClampNeg)).toInt.toNat + 1) (u_24.1 (4 : Int32).toNatClampNeg) u_24)))))) else True)))))
set_option maxHeartbeats 4000000 in
set_option maxRecDepth 100000 in
theorem c_X10_excepts (l : Launch) (G : GG) (dh0 : Nat) (dh1 : Nat) (dh2 : Nat) (dh3 : Nat) (dh4 : Nat) (dh5 : Nat) (dh6 : Nat) (dh7 : Nat) (sz : Nat) (d : MoV) (dr : Int32) (dy : Int32) (op : Int32) (hok : ok_X10_excepts d dr dy op) : wMet l yX10_excepts cX10_excepts 6 (some .int) 3 0 0 G (fl [wMo G dh0 dh1 dh2 dh3 dh4 dh5 dh6 dh7 d]) [.ref dh0, .int dr, .int dy, .int op] sz (fun u : Int32 × MoV => some (.int u.1)) (fun u : Int32 × MoV => u = f_X10_excepts d dr dy op) (fun u : Int32 × MoV => fl [wMo G dh0 dh1 dh2 dh3 dh4 dh5 dh6 dh7 u.2]) := by
  refine w_start (by decide +kernel) (Nat.le_of_ble_eq_true rfl) ?_
  intro p e s m below meth c A hx hb hr hml hts hown hlk hin hP hD hA hK hST ls hl
  have hS : va_S A s.heap s.heap [] := va_S.rf
  have hown : s.vm.findClass RX10 = some m.cls := hown
  have hl : lv_has ls 6 [(0, .ref dh0), (1, .int dr), (2, .int dy), (3, .int op)] := hl
  have hF : f_X10_excepts d dr dy op = (if (f_X10_isDoor d dr) = (0 : Int32) then (let u_65 : MoV := (f_X10_isThrown d (1 : Int32) (1 : Int32)); ((0 : Int32), u_65)) else (let u_4 : MoV := (f_X10_isThrown d (0 : Int32) (1 : Int32)); (if (f_X10_isIn dy (0 : Int32) (999 : Int32)) = (0 : Int32) then (let u_62 : MoV := (f_X10_isThrown u_4 (1 : Int32) (2 : Int32)); ((0 : Int32), u_62)) else (let u_9 : MoV := (f_X10_isThrown u_4 (0 : Int32) (2 : Int32)); (if (f_X10_today u_9) ≤ dy then (let u_14 : MoV := (f_X10_isThrown u_9 (0 : Int32) (3 : Int32)); (if (0 : Int32) ≤ (f_X10_place u_14 dr dy) then (let u_20 : MoV := (f_X10_isThrown u_14 (1 : Int32) (4 : Int32)); ((0 : Int32), u_20)) else (if (u_14.1 (4 : Int32).toNatClampNeg) = (12 : Int32) then (let u_56 : MoV := (f_X10_isThrown u_14 (1 : Int32) (4 : Int32)); ((0 : Int32), u_56)) else (let u_24 : MoV := (f_X10_isThrown u_14 (0 : Int32) (4 : Int32)); (lp_X10_excepts_109 d dr dy op u_4 u_9 u_14 u_24 (((u_24.1 (4 : Int32).toNatClampNeg)).toInt.toNat + 1) (u_24.1 (4 : Int32).toNatClampNeg) u_24))))) else (let u_59 : MoV := (f_X10_isThrown u_9 (1 : Int32) (3 : Int32)); ((0 : Int32), u_59))))))) := rfl
  have hok : (if (f_X10_isDoor d dr) = (0 : Int32) then True else (let u_4 : MoV := (f_X10_isThrown d (0 : Int32) (1 : Int32)); (if (f_X10_isIn dy (0 : Int32) (999 : Int32)) = (0 : Int32) then True else (let u_9 : MoV := (f_X10_isThrown u_4 (0 : Int32) (2 : Int32)); (if (f_X10_today u_9) ≤ dy then (let u_14 : MoV := (f_X10_isThrown u_9 (0 : Int32) (3 : Int32)); (ok_X10_place u_14 dr dy ∧ (if (0 : Int32) ≤ (f_X10_place u_14 dr dy) then True else (if (u_14.1 (4 : Int32).toNatClampNeg) = (12 : Int32) then True else (let u_24 : MoV := (f_X10_isThrown u_14 (0 : Int32) (4 : Int32)); (okl_lp_X10_excepts_109 d dr dy op u_4 u_9 u_14 u_24 (((u_24.1 (4 : Int32).toNatClampNeg)).toInt.toNat + 1) (u_24.1 (4 : Int32).toNatClampNeg) u_24)))))) else True))))) := hok
  refine lv_aload_n hx hb dX10_excepts_0 rfl (lv_at hl 0 rfl) ?_
  refine lv_aload_n hx hb dX10_excepts_1 rfl (lv_at hl 0 rfl) ?_
  refine lv_iload_n hx hb dX10_excepts_2 rfl (lv_at hl 1 rfl) ?_
  refine r_V (own := RX10) (v := (some (.int (f_X10_isDoor d dr)))) (st1 := [.int (f_X10_isDoor d dr), .ref dh0]) (As := [.int dr]) (rest := [.ref dh0]) (c_X10_isDoor l G dh0 dh1 dh2 dh3 dh4 dh5 dh6 dh7 d dr) ⟨hx, hb, hml, hown, hts⟩ g_X10_75 hdv_X10_isDoor hK hST hS hP [0, 1, 2, 3, 4, 5, 6, 7] rfl (k0 := 0) rfl rfl rfl ⟨Nat.le_of_ble_eq_true rfl, Nat.le_of_ble_eq_true rfl⟩ ⟨Nat.le_of_ble_eq_true rfl, Nat.le_of_ble_eq_true rfl⟩ rfl hl.1 rfl (Nat.le_of_ble_eq_true rfl) dX10_excepts_3 rfl (fun b_1 => ?_)
  refine lv_if_ne (tgt := 13) hx hb dX10_excepts_6 (by decide) (fun c_2 => ?_) (fun c_2 => ?_)
  · have hF := hF.trans (if_neg c_2)
    have hok := Eq.mp (if_neg c_2) hok
    refine lv_iconst (v := (0 : Int32)) hx hb dX10_excepts_13 (by decide) ?_
    refine lv_iconst (v := (1 : Int32)) hx hb dX10_excepts_14 (by decide) ?_
    refine w_V (own := RX10) (cs := [wMo G dh0 dh1 dh2 dh3 dh4 dh5 dh6 dh7 d]) (rs := []) (As := [.int (0 : Int32), .int (1 : Int32)]) (rest := []) (c_X10_isThrown l G dh0 dh1 dh2 dh3 dh4 dh5 dh6 dh7 s.heap.size d (0 : Int32) (1 : Int32) (rfl)) ⟨hx, hb, hml, hown, hts⟩ g_X10_63 hdv_X10_isThrown hK hST hS hP hD hA [0] [] rfl rfl rfl (k0 := 0) rfl rfl rfl ⟨Nat.le_of_ble_eq_true rfl, Nat.le_of_ble_eq_true rfl⟩ ⟨Nat.le_of_ble_eq_true rfl, Nat.le_of_ble_eq_true rfl⟩ rfl hl.1 rfl (Nat.le_of_ble_eq_true rfl) dX10_excepts_15 (fun u_4 H locs huu hP hD hS => ?_)
    have eu_4 := huu
    have hP : va_P G.1 vwCl (fl [wMo G dh0 dh1 dh2 dh3 dh4 dh5 dh6 dh7 u_4]) H := hP
    have hD : va_D A (fl [wMo G dh0 dh1 dh2 dh3 dh4 dh5 dh6 dh7 u_4]) := hD
    refine W.eq (g2 := F0 m 18 ls [.int (0 : Int32)]) rfl ?_
    have hF : f_X10_excepts d dr dy op = (if (f_X10_isIn dy (0 : Int32) (999 : Int32)) = (0 : Int32) then (let u_62 : MoV := (f_X10_isThrown u_4 (1 : Int32) (2 : Int32)); ((0 : Int32), u_62)) else (let u_9 : MoV := (f_X10_isThrown u_4 (0 : Int32) (2 : Int32)); (if (f_X10_today u_9) ≤ dy then (let u_14 : MoV := (f_X10_isThrown u_9 (0 : Int32) (3 : Int32)); (if (0 : Int32) ≤ (f_X10_place u_14 dr dy) then (let u_20 : MoV := (f_X10_isThrown u_14 (1 : Int32) (4 : Int32)); ((0 : Int32), u_20)) else (if (u_14.1 (4 : Int32).toNatClampNeg) = (12 : Int32) then (let u_56 : MoV := (f_X10_isThrown u_14 (1 : Int32) (4 : Int32)); ((0 : Int32), u_56)) else (let u_24 : MoV := (f_X10_isThrown u_14 (0 : Int32) (4 : Int32)); (lp_X10_excepts_109 d dr dy op u_4 u_9 u_14 u_24 (((u_24.1 (4 : Int32).toNatClampNeg)).toInt.toNat + 1) (u_24.1 (4 : Int32).toNatClampNeg) u_24))))) else (let u_59 : MoV := (f_X10_isThrown u_9 (1 : Int32) (3 : Int32)); ((0 : Int32), u_59))))) := by subst eu_4; exact hF
    have hok : (if (f_X10_isIn dy (0 : Int32) (999 : Int32)) = (0 : Int32) then True else (let u_9 : MoV := (f_X10_isThrown u_4 (0 : Int32) (2 : Int32)); (if (f_X10_today u_9) ≤ dy then (let u_14 : MoV := (f_X10_isThrown u_9 (0 : Int32) (3 : Int32)); (ok_X10_place u_14 dr dy ∧ (if (0 : Int32) ≤ (f_X10_place u_14 dr dy) then True else (if (u_14.1 (4 : Int32).toNatClampNeg) = (12 : Int32) then True else (let u_24 : MoV := (f_X10_isThrown u_14 (0 : Int32) (4 : Int32)); (okl_lp_X10_excepts_109 d dr dy op u_4 u_9 u_14 u_24 (((u_24.1 (4 : Int32).toNatClampNeg)).toInt.toNat + 1) (u_24.1 (4 : Int32).toNatClampNeg) u_24)))))) else True))) := by subst eu_4; exact hok
    refine lv_if_ne (tgt := 99) hx hb dX10_excepts_18 (by decide) (fun c_5 => ?_) (fun c_5 => ?_)
    · exact absurd c_5 (by decide)
    · refine lv_aload_n hx hb dX10_excepts_21 rfl (lv_at hl 0 rfl) ?_
      refine lv_iload_n hx hb dX10_excepts_22 rfl (lv_at hl 2 rfl) ?_
      refine lv_iconst (v := (0 : Int32)) hx hb dX10_excepts_23 (by decide) ?_
      refine lv_sipush (v := (999 : Int32)) hx hb dX10_excepts_24 (by decide) ?_
      refine r_S (own := RX10) (v := (some (.int (f_X10_isIn dy (0 : Int32) (999 : Int32))))) (st1 := [.int (f_X10_isIn dy (0 : Int32) (999 : Int32)), .ref dh0]) (As := [.int dy, .int (0 : Int32), .int (999 : Int32)]) (rest := [.ref dh0]) (c_X10_isIn l G dy (0 : Int32) (999 : Int32)) ⟨hx, hb, hml, hown, hts⟩ g_X10_48 hds_X10_isIn hK hST hS hP [] rfl ⟨Nat.le_of_ble_eq_true rfl, Nat.le_of_ble_eq_true rfl⟩ ⟨Nat.le_of_ble_eq_true rfl, Nat.le_of_ble_eq_true rfl⟩ rfl hl.1 rfl (Nat.le_of_ble_eq_true rfl) dX10_excepts_27 rfl (fun b_6 => ?_)
      refine lv_if_ne (tgt := 37) hx hb dX10_excepts_30 (by decide) (fun c_7 => ?_) (fun c_7 => ?_)
      · have hF := hF.trans (if_neg c_7)
        have hok := Eq.mp (if_neg c_7) hok
        refine lv_iconst (v := (0 : Int32)) hx hb dX10_excepts_37 (by decide) ?_
        refine lv_iconst (v := (2 : Int32)) hx hb dX10_excepts_38 (by decide) ?_
        refine w_V (own := RX10) (cs := [wMo G dh0 dh1 dh2 dh3 dh4 dh5 dh6 dh7 u_4]) (rs := []) (As := [.int (0 : Int32), .int (2 : Int32)]) (rest := []) (c_X10_isThrown l G dh0 dh1 dh2 dh3 dh4 dh5 dh6 dh7 H.size u_4 (0 : Int32) (2 : Int32) (rfl)) ⟨hx, hb, hml, hown, hts⟩ g_X10_63 hdv_X10_isThrown hK hST hS hP hD hA [0] [] rfl rfl rfl (k0 := 0) rfl rfl rfl ⟨Nat.le_of_ble_eq_true rfl, Nat.le_of_ble_eq_true rfl⟩ ⟨Nat.le_of_ble_eq_true rfl, Nat.le_of_ble_eq_true rfl⟩ rfl hl.1 rfl (Nat.le_of_ble_eq_true rfl) dX10_excepts_39 (fun u_9 H locs huu hP hD hS => ?_)
        have eu_9 := huu
        have hP : va_P G.1 vwCl (fl [wMo G dh0 dh1 dh2 dh3 dh4 dh5 dh6 dh7 u_9]) H := hP
        have hD : va_D A (fl [wMo G dh0 dh1 dh2 dh3 dh4 dh5 dh6 dh7 u_9]) := hD
        refine W.eq (g2 := F0 m 42 ls [.int (0 : Int32)]) rfl ?_
        have hF : f_X10_excepts d dr dy op = (if (f_X10_today u_9) ≤ dy then (let u_14 : MoV := (f_X10_isThrown u_9 (0 : Int32) (3 : Int32)); (if (0 : Int32) ≤ (f_X10_place u_14 dr dy) then (let u_20 : MoV := (f_X10_isThrown u_14 (1 : Int32) (4 : Int32)); ((0 : Int32), u_20)) else (if (u_14.1 (4 : Int32).toNatClampNeg) = (12 : Int32) then (let u_56 : MoV := (f_X10_isThrown u_14 (1 : Int32) (4 : Int32)); ((0 : Int32), u_56)) else (let u_24 : MoV := (f_X10_isThrown u_14 (0 : Int32) (4 : Int32)); (lp_X10_excepts_109 d dr dy op u_4 u_9 u_14 u_24 (((u_24.1 (4 : Int32).toNatClampNeg)).toInt.toNat + 1) (u_24.1 (4 : Int32).toNatClampNeg) u_24))))) else (let u_59 : MoV := (f_X10_isThrown u_9 (1 : Int32) (3 : Int32)); ((0 : Int32), u_59))) := by subst eu_9; exact hF
        have hok : (if (f_X10_today u_9) ≤ dy then (let u_14 : MoV := (f_X10_isThrown u_9 (0 : Int32) (3 : Int32)); (ok_X10_place u_14 dr dy ∧ (if (0 : Int32) ≤ (f_X10_place u_14 dr dy) then True else (if (u_14.1 (4 : Int32).toNatClampNeg) = (12 : Int32) then True else (let u_24 : MoV := (f_X10_isThrown u_14 (0 : Int32) (4 : Int32)); (okl_lp_X10_excepts_109 d dr dy op u_4 u_9 u_14 u_24 (((u_24.1 (4 : Int32).toNatClampNeg)).toInt.toNat + 1) (u_24.1 (4 : Int32).toNatClampNeg) u_24)))))) else True) := by subst eu_9; exact hok
        refine lv_if_ne (tgt := 99) hx hb dX10_excepts_42 (by decide) (fun c_10 => ?_) (fun c_10 => ?_)
        · exact absurd c_10 (by decide)
        · refine lv_aload_n hx hb dX10_excepts_45 rfl (lv_at hl 0 rfl) ?_
          refine lv_iload_n hx hb dX10_excepts_46 rfl (lv_at hl 2 rfl) ?_
          refine lv_aload_n hx hb dX10_excepts_47 rfl (lv_at hl 0 rfl) ?_
          refine r_V (own := RX10) (v := (some (.int (f_X10_today u_9)))) (st1 := [.int (f_X10_today u_9), .int dy, .ref dh0]) (As := []) (rest := [.int dy, .ref dh0]) (c_X10_today l G dh0 dh1 dh2 dh3 dh4 dh5 dh6 dh7 u_9) ⟨hx, hb, hml, hown, hts⟩ g_X10_85 hdv_X10_today hK hST hS hP [0, 1, 2, 3, 4, 5, 6, 7] rfl (k0 := 0) rfl rfl rfl ⟨Nat.le_of_ble_eq_true rfl, Nat.le_of_ble_eq_true rfl⟩ ⟨Nat.le_of_ble_eq_true rfl, Nat.le_of_ble_eq_true rfl⟩ rfl hl.1 rfl (Nat.le_of_ble_eq_true rfl) dX10_excepts_48 rfl (fun b_11 => ?_)
          refine lv_icmp_ge (tgt := 58) hx hb dX10_excepts_51 (by decide) (fun c_12 => ?_) (fun c_12 => ?_)
          · have hF := hF.trans (if_pos c_12)
            have hok := Eq.mp (if_pos c_12) hok
            refine lv_iconst (v := (0 : Int32)) hx hb dX10_excepts_58 (by decide) ?_
            refine lv_iconst (v := (3 : Int32)) hx hb dX10_excepts_59 (by decide) ?_
            refine w_V (own := RX10) (cs := [wMo G dh0 dh1 dh2 dh3 dh4 dh5 dh6 dh7 u_9]) (rs := []) (As := [.int (0 : Int32), .int (3 : Int32)]) (rest := []) (c_X10_isThrown l G dh0 dh1 dh2 dh3 dh4 dh5 dh6 dh7 H.size u_9 (0 : Int32) (3 : Int32) (rfl)) ⟨hx, hb, hml, hown, hts⟩ g_X10_63 hdv_X10_isThrown hK hST hS hP hD hA [0] [] rfl rfl rfl (k0 := 0) rfl rfl rfl ⟨Nat.le_of_ble_eq_true rfl, Nat.le_of_ble_eq_true rfl⟩ ⟨Nat.le_of_ble_eq_true rfl, Nat.le_of_ble_eq_true rfl⟩ rfl hl.1 rfl (Nat.le_of_ble_eq_true rfl) dX10_excepts_60 (fun u_14 H locs huu hP hD hS => ?_)
            have eu_14 := huu
            have hP : va_P G.1 vwCl (fl [wMo G dh0 dh1 dh2 dh3 dh4 dh5 dh6 dh7 u_14]) H := hP
            have hD : va_D A (fl [wMo G dh0 dh1 dh2 dh3 dh4 dh5 dh6 dh7 u_14]) := hD
            refine W.eq (g2 := F0 m 63 ls [.int (0 : Int32)]) rfl ?_
            have hF : f_X10_excepts d dr dy op = (if (0 : Int32) ≤ (f_X10_place u_14 dr dy) then (let u_20 : MoV := (f_X10_isThrown u_14 (1 : Int32) (4 : Int32)); ((0 : Int32), u_20)) else (if (u_14.1 (4 : Int32).toNatClampNeg) = (12 : Int32) then (let u_56 : MoV := (f_X10_isThrown u_14 (1 : Int32) (4 : Int32)); ((0 : Int32), u_56)) else (let u_24 : MoV := (f_X10_isThrown u_14 (0 : Int32) (4 : Int32)); (lp_X10_excepts_109 d dr dy op u_4 u_9 u_14 u_24 (((u_24.1 (4 : Int32).toNatClampNeg)).toInt.toNat + 1) (u_24.1 (4 : Int32).toNatClampNeg) u_24)))) := by subst eu_14; exact hF
            have hok : (ok_X10_place u_14 dr dy ∧ (if (0 : Int32) ≤ (f_X10_place u_14 dr dy) then True else (if (u_14.1 (4 : Int32).toNatClampNeg) = (12 : Int32) then True else (let u_24 : MoV := (f_X10_isThrown u_14 (0 : Int32) (4 : Int32)); (okl_lp_X10_excepts_109 d dr dy op u_4 u_9 u_14 u_24 (((u_24.1 (4 : Int32).toNatClampNeg)).toInt.toNat + 1) (u_24.1 (4 : Int32).toNatClampNeg) u_24))))) := by subst eu_14; exact hok
            refine lv_if_ne (tgt := 99) hx hb dX10_excepts_63 (by decide) (fun c_15 => ?_) (fun c_15 => ?_)
            · exact absurd c_15 (by decide)
            · refine lv_aload_n hx hb dX10_excepts_66 rfl (lv_at hl 0 rfl) ?_
              refine lv_aload_n hx hb dX10_excepts_67 rfl (lv_at hl 0 rfl) ?_
              refine lv_iload_n hx hb dX10_excepts_68 rfl (lv_at hl 1 rfl) ?_
              refine lv_iload_n hx hb dX10_excepts_69 rfl (lv_at hl 2 rfl) ?_
              have k_16 := hok.1
              have hok := hok.2
              refine r_V (own := RX10) (v := (some (.int (f_X10_place u_14 dr dy)))) (st1 := [.int (f_X10_place u_14 dr dy), .ref dh0]) (As := [.int dr, .int dy]) (rest := [.ref dh0]) (c_X10_place l G dh0 dh1 dh2 dh3 dh4 dh5 dh6 dh7 u_14 dr dy k_16) ⟨hx, hb, hml, hown, hts⟩ g_X10_89 hdv_X10_place hK hST hS hP [0, 1, 2, 3, 4, 5, 6, 7] rfl (k0 := 0) rfl rfl rfl ⟨Nat.le_of_ble_eq_true rfl, Nat.le_of_ble_eq_true rfl⟩ ⟨Nat.le_of_ble_eq_true rfl, Nat.le_of_ble_eq_true rfl⟩ rfl hl.1 rfl (Nat.le_of_ble_eq_true rfl) dX10_excepts_70 rfl (fun b_17 => ?_)
              refine lv_if_ge (tgt := 87) hx hb dX10_excepts_73 (by decide) (fun c_18 => ?_) (fun c_18 => ?_)
              · have hF := hF.trans (if_pos c_18)
                have hok := Eq.mp (if_pos c_18) hok
                refine lv_iconst (v := (1 : Int32)) hx hb dX10_excepts_87 (by decide) ?_
                refine lv_goto (tgt := 92) hx hb dX10_excepts_88 (by decide) ?_
                refine lv_iconst (v := (4 : Int32)) hx hb dX10_excepts_92 (by decide) ?_
                refine w_V (own := RX10) (cs := [wMo G dh0 dh1 dh2 dh3 dh4 dh5 dh6 dh7 u_14]) (rs := []) (As := [.int (1 : Int32), .int (4 : Int32)]) (rest := []) (c_X10_isThrown l G dh0 dh1 dh2 dh3 dh4 dh5 dh6 dh7 H.size u_14 (1 : Int32) (4 : Int32) (rfl)) ⟨hx, hb, hml, hown, hts⟩ g_X10_63 hdv_X10_isThrown hK hST hS hP hD hA [0] [] rfl rfl rfl (k0 := 0) rfl rfl rfl ⟨Nat.le_of_ble_eq_true rfl, Nat.le_of_ble_eq_true rfl⟩ ⟨Nat.le_of_ble_eq_true rfl, Nat.le_of_ble_eq_true rfl⟩ rfl hl.1 rfl (Nat.le_of_ble_eq_true rfl) dX10_excepts_93 (fun u_20 H locs huu hP hD hS => ?_)
                have eu_20 := huu
                have hP : va_P G.1 vwCl (fl [wMo G dh0 dh1 dh2 dh3 dh4 dh5 dh6 dh7 u_20]) H := hP
                have hD : va_D A (fl [wMo G dh0 dh1 dh2 dh3 dh4 dh5 dh6 dh7 u_20]) := hD
                refine W.eq (g2 := F0 m 96 ls [.int (1 : Int32)]) rfl ?_
                have hF : f_X10_excepts d dr dy op = ((0 : Int32), u_20) := by subst eu_20; exact hF
                refine lv_if_eq (tgt := 101) hx hb dX10_excepts_96 (by decide) (fun c_21 => ?_) (fun c_21 => ?_)
                · exact absurd c_21 (by decide)
                · refine lv_iconst (v := (0 : Int32)) hx hb dX10_excepts_99 (by decide) ?_
                  exact w_ret (u := ((0 : Int32), u_20)) hx hb hr hlk rfl hS rfl hF.symm hP hD (Nat.le_of_ble_eq_true rfl) (Nat.le_of_ble_eq_true rfl) dX10_excepts_100
              · have hF := hF.trans (if_neg c_18)
                have hok := Eq.mp (if_neg c_18) hok
                refine lv_aload_n hx hb dX10_excepts_76 rfl (lv_at hl 0 rfl) ?_
                refine va_get (D := G.1) (ci := 12) (v := .ref dh1) (C := RX10) (T := TX10) (N := 17) hx hb hts uws_X10 hown hK hP 0 rfl rfl 0 (by decide) (hts _ u_1680) (fun _ h9 => h9) rfl dX10_excepts_77 ?_
                refine lv_iconst (v := (4 : Int32)) hx hb dX10_excepts_80 (by decide) ?_
                refine va_iald hx hb hK hP 1 0 rfl rfl (vp_in_nI (n := 4) (by decide) (by decide)) dX10_excepts_81 ?_
                refine lv_bipush (v := (12 : Int32)) hx hb dX10_excepts_82 (by decide) ?_
                refine lv_icmp_ne (tgt := 91) hx hb dX10_excepts_84 (by decide) (fun c_22 => ?_) (fun c_22 => ?_)
                · have hF := hF.trans (if_neg c_22)
                  have hok := Eq.mp (if_neg c_22) hok
                  refine lv_iconst (v := (0 : Int32)) hx hb dX10_excepts_91 (by decide) ?_
                  refine lv_iconst (v := (4 : Int32)) hx hb dX10_excepts_92 (by decide) ?_
                  refine w_V (own := RX10) (cs := [wMo G dh0 dh1 dh2 dh3 dh4 dh5 dh6 dh7 u_14]) (rs := []) (As := [.int (0 : Int32), .int (4 : Int32)]) (rest := []) (c_X10_isThrown l G dh0 dh1 dh2 dh3 dh4 dh5 dh6 dh7 H.size u_14 (0 : Int32) (4 : Int32) (rfl)) ⟨hx, hb, hml, hown, hts⟩ g_X10_63 hdv_X10_isThrown hK hST hS hP hD hA [0] [] rfl rfl rfl (k0 := 0) rfl rfl rfl ⟨Nat.le_of_ble_eq_true rfl, Nat.le_of_ble_eq_true rfl⟩ ⟨Nat.le_of_ble_eq_true rfl, Nat.le_of_ble_eq_true rfl⟩ rfl hl.1 rfl (Nat.le_of_ble_eq_true rfl) dX10_excepts_93 (fun u_24 H locs huu hP hD hS => ?_)
                  have eu_24 := huu
                  have hP : va_P G.1 vwCl (fl [wMo G dh0 dh1 dh2 dh3 dh4 dh5 dh6 dh7 u_24]) H := hP
                  have hD : va_D A (fl [wMo G dh0 dh1 dh2 dh3 dh4 dh5 dh6 dh7 u_24]) := hD
                  refine W.eq (g2 := F0 m 96 ls [.int (0 : Int32)]) rfl ?_
                  have hF : f_X10_excepts d dr dy op = (lp_X10_excepts_109 d dr dy op u_4 u_9 u_14 u_24 (((u_24.1 (4 : Int32).toNatClampNeg)).toInt.toNat + 1) (u_24.1 (4 : Int32).toNatClampNeg) u_24) := by subst eu_24; exact hF
                  have hok : (okl_lp_X10_excepts_109 d dr dy op u_4 u_9 u_14 u_24 (((u_24.1 (4 : Int32).toNatClampNeg)).toInt.toNat + 1) (u_24.1 (4 : Int32).toNatClampNeg) u_24) := by subst eu_24; exact hok
                  refine lv_if_eq (tgt := 101) hx hb dX10_excepts_96 (by decide) (fun c_25 => ?_) (fun c_25 => ?_)
                  · refine lv_aload_n hx hb dX10_excepts_101 rfl (lv_at hl 0 rfl) ?_
                    refine va_get (D := G.1) (ci := 12) (v := .ref dh1) (C := RX10) (T := TX10) (N := 17) hx hb hts uws_X10 hown hK hP 0 rfl rfl 0 (by decide) (hts _ u_1680) (fun _ h9 => h9) rfl dX10_excepts_102 ?_
                    refine lv_iconst (v := (4 : Int32)) hx hb dX10_excepts_105 (by decide) ?_
                    refine va_iald hx hb hK hP 1 0 rfl rfl (vp_in_nI (n := 4) (by decide) (by decide)) dX10_excepts_106 ?_
                    refine lv_istore (lv' := [(4, .int (u_24.1 (4 : Int32).toNatClampNeg)), (0, .ref dh0), (1, .int dr), (2, .int dy), (3, .int op)]) hx hb dX10_excepts_107 hl (by decide) rfl (fun ls hl => ?_)
                    have L109 : ∀ (n : Nat) (x4 : Int32) (dL : MoV) (H : Heap) (locs : List Loc) (ls : Array Slot), lv_has ls 6 [(4, .int x4), (0, .ref dh0), (1, .int dr), (2, .int dy), (3, .int op)] → va_P G.1 vwCl (fl [wMo G dh0 dh1 dh2 dh3 dh4 dh5 dh6 dh7 dL]) H → va_D A (fl [wMo G dh0 dh1 dh2 dh3 dh4 dh5 dh6 dh7 dL]) → va_S A s.heap H locs → (dnI x4 n) → f_X10_excepts d dr dy op = lp_X10_excepts_109 d dr dy op u_4 u_9 u_14 u_24 n x4 dL → okl_lp_X10_excepts_109 d dr dy op u_4 u_9 u_14 u_24 n x4 dL → W p l e (rmd 3 0 0) s m ([.ref dh0, .int dr, .int dy, .int op] : List Value).toArray below meth c H locs 0 0 (MQ below (wQ (fun u : Int32 × MoV => some (.int u.1)) (fun u : Int32 × MoV => u = f_X10_excepts d dr dy op) (fun u : Int32 × MoV => fl [wMo G dh0 dh1 dh2 dh3 dh4 dh5 dh6 dh7 u.2]) G.1 A) ([.ref dh0, .int dr, .int dy, .int op] : List Value).toArray s 0 0 A) (F0 m 109 ls []) := by
                      intro n
                      induction n with
                      | zero => intro x4 dL H locs ls hl _ _ _ hu; exact absurd hu (dnI_0)
                      | succ n ih =>
                        intro x4 dL H locs ls hl hP hD hS hu hF hok
                        have hF : f_X10_excepts d dr dy op = (if x4 ≤ (0 : Int32) then (((upd (upd (upd (upd dL.1 (((55 : Int32) + ((3 : Int32) * x4)) + (0 : Int32)).toNatClampNeg dy) (((55 : Int32) + ((3 : Int32) * x4)) + (1 : Int32)).toNatClampNeg dr) (((55 : Int32) + ((3 : Int32) * x4)) + (2 : Int32)).toNatClampNeg op) (4 : Int32).toNatClampNeg (((upd (upd (upd dL.1 (((55 : Int32) + ((3 : Int32) * x4)) + (0 : Int32)).toNatClampNeg dy) (((55 : Int32) + ((3 : Int32) * x4)) + (1 : Int32)).toNatClampNeg dr) (((55 : Int32) + ((3 : Int32) * x4)) + (2 : Int32)).toNatClampNeg op) (4 : Int32).toNatClampNeg) + (1 : Int32))) (4 : Int32).toNatClampNeg), (mo0 dL (upd (upd (upd (upd dL.1 (((55 : Int32) + ((3 : Int32) * x4)) + (0 : Int32)).toNatClampNeg dy) (((55 : Int32) + ((3 : Int32) * x4)) + (1 : Int32)).toNatClampNeg dr) (((55 : Int32) + ((3 : Int32) * x4)) + (2 : Int32)).toNatClampNeg op) (4 : Int32).toNatClampNeg (((upd (upd (upd dL.1 (((55 : Int32) + ((3 : Int32) * x4)) + (0 : Int32)).toNatClampNeg dy) (((55 : Int32) + ((3 : Int32) * x4)) + (1 : Int32)).toNatClampNeg dr) (((55 : Int32) + ((3 : Int32) * x4)) + (2 : Int32)).toNatClampNeg op) (4 : Int32).toNatClampNeg) + (1 : Int32))))) else (if dy < (f_X10_ofException dL (x4 - (1 : Int32)) (0 : Int32)) then (let r_37 : Int32 × MoV := (lp_X10_excepts_156 d dr dy op u_4 u_9 u_14 u_24 x4 dL ((((3 : Int32)).toInt - ((0 : Int32)).toInt).toNat + 1) (0 : Int32) dL); (lp_X10_excepts_109 d dr dy op u_4 u_9 u_14 u_24 n (x4 + (-1)) r_37.2)) else (if (f_X10_ofException dL (x4 - (1 : Int32)) (0 : Int32)) = dy then (if (f_X10_ofException dL (x4 - (1 : Int32)) (1 : Int32)) ≤ dr then (((upd (upd (upd (upd dL.1 (((55 : Int32) + ((3 : Int32) * x4)) + (0 : Int32)).toNatClampNeg dy) (((55 : Int32) + ((3 : Int32) * x4)) + (1 : Int32)).toNatClampNeg dr) (((55 : Int32) + ((3 : Int32) * x4)) + (2 : Int32)).toNatClampNeg op) (4 : Int32).toNatClampNeg (((upd (upd (upd dL.1 (((55 : Int32) + ((3 : Int32) * x4)) + (0 : Int32)).toNatClampNeg dy) (((55 : Int32) + ((3 : Int32) * x4)) + (1 : Int32)).toNatClampNeg dr) (((55 : Int32) + ((3 : Int32) * x4)) + (2 : Int32)).toNatClampNeg op) (4 : Int32).toNatClampNeg) + (1 : Int32))) (4 : Int32).toNatClampNeg), (mo0 dL (upd (upd (upd (upd dL.1 (((55 : Int32) + ((3 : Int32) * x4)) + (0 : Int32)).toNatClampNeg dy) (((55 : Int32) + ((3 : Int32) * x4)) + (1 : Int32)).toNatClampNeg dr) (((55 : Int32) + ((3 : Int32) * x4)) + (2 : Int32)).toNatClampNeg op) (4 : Int32).toNatClampNeg (((upd (upd (upd dL.1 (((55 : Int32) + ((3 : Int32) * x4)) + (0 : Int32)).toNatClampNeg dy) (((55 : Int32) + ((3 : Int32) * x4)) + (1 : Int32)).toNatClampNeg dr) (((55 : Int32) + ((3 : Int32) * x4)) + (2 : Int32)).toNatClampNeg op) (4 : Int32).toNatClampNeg) + (1 : Int32))))) else (let r_54 : Int32 × MoV := (lp_X10_excepts_156' d dr dy op u_4 u_9 u_14 u_24 x4 dL ((((3 : Int32)).toInt - ((0 : Int32)).toInt).toNat + 1) (0 : Int32) dL); (lp_X10_excepts_109 d dr dy op u_4 u_9 u_14 u_24 n (x4 + (-1)) r_54.2))) else (((upd (upd (upd (upd dL.1 (((55 : Int32) + ((3 : Int32) * x4)) + (0 : Int32)).toNatClampNeg dy) (((55 : Int32) + ((3 : Int32) * x4)) + (1 : Int32)).toNatClampNeg dr) (((55 : Int32) + ((3 : Int32) * x4)) + (2 : Int32)).toNatClampNeg op) (4 : Int32).toNatClampNeg (((upd (upd (upd dL.1 (((55 : Int32) + ((3 : Int32) * x4)) + (0 : Int32)).toNatClampNeg dy) (((55 : Int32) + ((3 : Int32) * x4)) + (1 : Int32)).toNatClampNeg dr) (((55 : Int32) + ((3 : Int32) * x4)) + (2 : Int32)).toNatClampNeg op) (4 : Int32).toNatClampNeg) + (1 : Int32))) (4 : Int32).toNatClampNeg), (mo0 dL (upd (upd (upd (upd dL.1 (((55 : Int32) + ((3 : Int32) * x4)) + (0 : Int32)).toNatClampNeg dy) (((55 : Int32) + ((3 : Int32) * x4)) + (1 : Int32)).toNatClampNeg dr) (((55 : Int32) + ((3 : Int32) * x4)) + (2 : Int32)).toNatClampNeg op) (4 : Int32).toNatClampNeg (((upd (upd (upd dL.1 (((55 : Int32) + ((3 : Int32) * x4)) + (0 : Int32)).toNatClampNeg dy) (((55 : Int32) + ((3 : Int32) * x4)) + (1 : Int32)).toNatClampNeg dr) (((55 : Int32) + ((3 : Int32) * x4)) + (2 : Int32)).toNatClampNeg op) (4 : Int32).toNatClampNeg) + (1 : Int32)))))))) := hF
                        have hok : (if x4 ≤ (0 : Int32) then (vp_in (((55 : Int32) + ((3 : Int32) * x4)) + (0 : Int32)) 249 ∧ (vp_in (((55 : Int32) + ((3 : Int32) * x4)) + (1 : Int32)) 249 ∧ (vp_in (((55 : Int32) + ((3 : Int32) * x4)) + (2 : Int32)) 249 ∧ True))) else (ok_X10_ofException dL (x4 - (1 : Int32)) (0 : Int32) ∧ (if dy < (f_X10_ofException dL (x4 - (1 : Int32)) (0 : Int32)) then (okl_lp_X10_excepts_156 d dr dy op u_4 u_9 u_14 u_24 x4 dL ((((3 : Int32)).toInt - ((0 : Int32)).toInt).toNat + 1) (0 : Int32) dL ∧ (let r_37 : Int32 × MoV := (lp_X10_excepts_156 d dr dy op u_4 u_9 u_14 u_24 x4 dL ((((3 : Int32)).toInt - ((0 : Int32)).toInt).toNat + 1) (0 : Int32) dL); (okl_lp_X10_excepts_109 d dr dy op u_4 u_9 u_14 u_24 n (x4 + (-1)) r_37.2))) else (ok_X10_ofException dL (x4 - (1 : Int32)) (0 : Int32) ∧ (if (f_X10_ofException dL (x4 - (1 : Int32)) (0 : Int32)) = dy then (ok_X10_ofException dL (x4 - (1 : Int32)) (1 : Int32) ∧ (if (f_X10_ofException dL (x4 - (1 : Int32)) (1 : Int32)) ≤ dr then (vp_in (((55 : Int32) + ((3 : Int32) * x4)) + (0 : Int32)) 249 ∧ (vp_in (((55 : Int32) + ((3 : Int32) * x4)) + (1 : Int32)) 249 ∧ (vp_in (((55 : Int32) + ((3 : Int32) * x4)) + (2 : Int32)) 249 ∧ True))) else (okl_lp_X10_excepts_156' d dr dy op u_4 u_9 u_14 u_24 x4 dL ((((3 : Int32)).toInt - ((0 : Int32)).toInt).toNat + 1) (0 : Int32) dL ∧ (let r_54 : Int32 × MoV := (lp_X10_excepts_156' d dr dy op u_4 u_9 u_14 u_24 x4 dL ((((3 : Int32)).toInt - ((0 : Int32)).toInt).toNat + 1) (0 : Int32) dL); (okl_lp_X10_excepts_109 d dr dy op u_4 u_9 u_14 u_24 n (x4 + (-1)) r_54.2))))) else (vp_in (((55 : Int32) + ((3 : Int32) * x4)) + (0 : Int32)) 249 ∧ (vp_in (((55 : Int32) + ((3 : Int32) * x4)) + (1 : Int32)) 249 ∧ (vp_in (((55 : Int32) + ((3 : Int32) * x4)) + (2 : Int32)) 249 ∧ True)))))))) := hok
                        refine lv_iload hx hb dX10_excepts_109 (lv_at hl 0 rfl) ?_
                        refine lv_if_le (tgt := 199) hx hb dX10_excepts_111 (by decide) (fun c_26 => ?_) (fun c_26 => ?_)
                        · have hF := hF.trans (if_pos c_26)
                          have hok := Eq.mp (if_pos c_26) hok
                          refine lv_aload_n hx hb dX10_excepts_199 rfl (lv_at hl 1 rfl) ?_
                          refine va_get (D := G.1) (ci := 12) (v := .ref dh1) (C := RX10) (T := TX10) (N := 17) hx hb hts uws_X10 hown hK hP 0 rfl rfl 0 (by decide) (hts _ u_1680) (fun _ h9 => h9) rfl dX10_excepts_200 ?_
                          refine lv_bipush (v := (55 : Int32)) hx hb dX10_excepts_203 (by decide) ?_
                          refine lv_iconst (v := (3 : Int32)) hx hb dX10_excepts_205 (by decide) ?_
                          refine lv_iload hx hb dX10_excepts_206 (lv_at hl 0 rfl) ?_
                          refine lv_imul hx hb dX10_excepts_208 ?_
                          refine lv_iadd hx hb dX10_excepts_209 ?_
                          refine lv_iconst (v := (0 : Int32)) hx hb dX10_excepts_210 (by decide) ?_
                          refine lv_iadd hx hb dX10_excepts_211 ?_
                          refine lv_iload_n hx hb dX10_excepts_212 rfl (lv_at hl 3 rfl) ?_
                          have h_27 := hok.1
                          have hok := hok.2
                          refine va_iast hx hb hK hP hD hS 1 0 rfl rfl h_27 dX10_excepts_213 (fun H locs hP hD hS => ?_)
                          have hP : va_P G.1 vwCl (fl [wMo G dh0 dh1 dh2 dh3 dh4 dh5 dh6 dh7 (mo0 dL (upd dL.1 (((55 : Int32) + ((3 : Int32) * x4)) + (0 : Int32)).toNatClampNeg dy))]) H := hP
                          have hD : va_D A (fl [wMo G dh0 dh1 dh2 dh3 dh4 dh5 dh6 dh7 (mo0 dL (upd dL.1 (((55 : Int32) + ((3 : Int32) * x4)) + (0 : Int32)).toNatClampNeg dy))]) := hD
                          refine lv_aload_n hx hb dX10_excepts_214 rfl (lv_at hl 1 rfl) ?_
                          refine va_get (D := G.1) (ci := 12) (v := .ref dh1) (C := RX10) (T := TX10) (N := 17) hx hb hts uws_X10 hown hK hP 0 rfl rfl 0 (by decide) (hts _ u_1680) (fun _ h9 => h9) rfl dX10_excepts_215 ?_
                          refine lv_bipush (v := (55 : Int32)) hx hb dX10_excepts_218 (by decide) ?_
                          refine lv_iconst (v := (3 : Int32)) hx hb dX10_excepts_220 (by decide) ?_
                          refine lv_iload hx hb dX10_excepts_221 (lv_at hl 0 rfl) ?_
                          refine lv_imul hx hb dX10_excepts_223 ?_
                          refine lv_iadd hx hb dX10_excepts_224 ?_
                          refine lv_iconst (v := (1 : Int32)) hx hb dX10_excepts_225 (by decide) ?_
                          refine lv_iadd hx hb dX10_excepts_226 ?_
                          refine lv_iload_n hx hb dX10_excepts_227 rfl (lv_at hl 2 rfl) ?_
                          have h_28 := hok.1
                          have hok := hok.2
                          refine va_iast hx hb hK hP hD hS 1 0 rfl rfl h_28 dX10_excepts_228 (fun H locs hP hD hS => ?_)
                          have hP : va_P G.1 vwCl (fl [wMo G dh0 dh1 dh2 dh3 dh4 dh5 dh6 dh7 (mo0 dL (upd (upd dL.1 (((55 : Int32) + ((3 : Int32) * x4)) + (0 : Int32)).toNatClampNeg dy) (((55 : Int32) + ((3 : Int32) * x4)) + (1 : Int32)).toNatClampNeg dr))]) H := hP
                          have hD : va_D A (fl [wMo G dh0 dh1 dh2 dh3 dh4 dh5 dh6 dh7 (mo0 dL (upd (upd dL.1 (((55 : Int32) + ((3 : Int32) * x4)) + (0 : Int32)).toNatClampNeg dy) (((55 : Int32) + ((3 : Int32) * x4)) + (1 : Int32)).toNatClampNeg dr))]) := hD
                          refine lv_aload_n hx hb dX10_excepts_229 rfl (lv_at hl 1 rfl) ?_
                          refine va_get (D := G.1) (ci := 12) (v := .ref dh1) (C := RX10) (T := TX10) (N := 17) hx hb hts uws_X10 hown hK hP 0 rfl rfl 0 (by decide) (hts _ u_1680) (fun _ h9 => h9) rfl dX10_excepts_230 ?_
                          refine lv_bipush (v := (55 : Int32)) hx hb dX10_excepts_233 (by decide) ?_
                          refine lv_iconst (v := (3 : Int32)) hx hb dX10_excepts_235 (by decide) ?_
                          refine lv_iload hx hb dX10_excepts_236 (lv_at hl 0 rfl) ?_
                          refine lv_imul hx hb dX10_excepts_238 ?_
                          refine lv_iadd hx hb dX10_excepts_239 ?_
                          refine lv_iconst (v := (2 : Int32)) hx hb dX10_excepts_240 (by decide) ?_
                          refine lv_iadd hx hb dX10_excepts_241 ?_
                          refine lv_iload_n hx hb dX10_excepts_242 rfl (lv_at hl 4 rfl) ?_
                          have h_29 := hok.1
                          have hok := hok.2
                          refine va_iast hx hb hK hP hD hS 1 0 rfl rfl h_29 dX10_excepts_243 (fun H locs hP hD hS => ?_)
                          have hP : va_P G.1 vwCl (fl [wMo G dh0 dh1 dh2 dh3 dh4 dh5 dh6 dh7 (mo0 dL (upd (upd (upd dL.1 (((55 : Int32) + ((3 : Int32) * x4)) + (0 : Int32)).toNatClampNeg dy) (((55 : Int32) + ((3 : Int32) * x4)) + (1 : Int32)).toNatClampNeg dr) (((55 : Int32) + ((3 : Int32) * x4)) + (2 : Int32)).toNatClampNeg op))]) H := hP
                          have hD : va_D A (fl [wMo G dh0 dh1 dh2 dh3 dh4 dh5 dh6 dh7 (mo0 dL (upd (upd (upd dL.1 (((55 : Int32) + ((3 : Int32) * x4)) + (0 : Int32)).toNatClampNeg dy) (((55 : Int32) + ((3 : Int32) * x4)) + (1 : Int32)).toNatClampNeg dr) (((55 : Int32) + ((3 : Int32) * x4)) + (2 : Int32)).toNatClampNeg op))]) := hD
                          refine lv_aload_n hx hb dX10_excepts_244 rfl (lv_at hl 1 rfl) ?_
                          refine va_get (D := G.1) (ci := 12) (v := .ref dh1) (C := RX10) (T := TX10) (N := 17) hx hb hts uws_X10 hown hK hP 0 rfl rfl 0 (by decide) (hts _ u_1680) (fun _ h9 => h9) rfl dX10_excepts_245 ?_
                          refine lv_iconst (v := (4 : Int32)) hx hb dX10_excepts_248 (by decide) ?_
                          refine lv_dup2_11 hx hb dX10_excepts_249 rfl rfl ?_
                          refine va_iald hx hb hK hP 1 0 rfl rfl (vp_in_nI (n := 4) (by decide) (by decide)) dX10_excepts_250 ?_
                          refine lv_iconst (v := (1 : Int32)) hx hb dX10_excepts_251 (by decide) ?_
                          refine lv_iadd hx hb dX10_excepts_252 ?_
                          refine va_iast hx hb hK hP hD hS 1 0 rfl rfl (vp_in_nI (n := 4) (by decide) (by decide)) dX10_excepts_253 (fun H locs hP hD hS => ?_)
                          have hP : va_P G.1 vwCl (fl [wMo G dh0 dh1 dh2 dh3 dh4 dh5 dh6 dh7 (mo0 dL (upd (upd (upd (upd dL.1 (((55 : Int32) + ((3 : Int32) * x4)) + (0 : Int32)).toNatClampNeg dy) (((55 : Int32) + ((3 : Int32) * x4)) + (1 : Int32)).toNatClampNeg dr) (((55 : Int32) + ((3 : Int32) * x4)) + (2 : Int32)).toNatClampNeg op) (4 : Int32).toNatClampNeg (((upd (upd (upd dL.1 (((55 : Int32) + ((3 : Int32) * x4)) + (0 : Int32)).toNatClampNeg dy) (((55 : Int32) + ((3 : Int32) * x4)) + (1 : Int32)).toNatClampNeg dr) (((55 : Int32) + ((3 : Int32) * x4)) + (2 : Int32)).toNatClampNeg op) (4 : Int32).toNatClampNeg) + (1 : Int32))))]) H := hP
                          have hD : va_D A (fl [wMo G dh0 dh1 dh2 dh3 dh4 dh5 dh6 dh7 (mo0 dL (upd (upd (upd (upd dL.1 (((55 : Int32) + ((3 : Int32) * x4)) + (0 : Int32)).toNatClampNeg dy) (((55 : Int32) + ((3 : Int32) * x4)) + (1 : Int32)).toNatClampNeg dr) (((55 : Int32) + ((3 : Int32) * x4)) + (2 : Int32)).toNatClampNeg op) (4 : Int32).toNatClampNeg (((upd (upd (upd dL.1 (((55 : Int32) + ((3 : Int32) * x4)) + (0 : Int32)).toNatClampNeg dy) (((55 : Int32) + ((3 : Int32) * x4)) + (1 : Int32)).toNatClampNeg dr) (((55 : Int32) + ((3 : Int32) * x4)) + (2 : Int32)).toNatClampNeg op) (4 : Int32).toNatClampNeg) + (1 : Int32))))]) := hD
                          refine lv_aload_n hx hb dX10_excepts_254 rfl (lv_at hl 1 rfl) ?_
                          refine va_get (D := G.1) (ci := 12) (v := .ref dh1) (C := RX10) (T := TX10) (N := 17) hx hb hts uws_X10 hown hK hP 0 rfl rfl 0 (by decide) (hts _ u_1680) (fun _ h9 => h9) rfl dX10_excepts_255 ?_
                          refine lv_iconst (v := (4 : Int32)) hx hb dX10_excepts_258 (by decide) ?_
                          refine va_iald hx hb hK hP 1 0 rfl rfl (vp_in_nI (n := 4) (by decide) (by decide)) dX10_excepts_259 ?_
                          exact w_ret (u := (((upd (upd (upd (upd dL.1 (((55 : Int32) + ((3 : Int32) * x4)) + (0 : Int32)).toNatClampNeg dy) (((55 : Int32) + ((3 : Int32) * x4)) + (1 : Int32)).toNatClampNeg dr) (((55 : Int32) + ((3 : Int32) * x4)) + (2 : Int32)).toNatClampNeg op) (4 : Int32).toNatClampNeg (((upd (upd (upd dL.1 (((55 : Int32) + ((3 : Int32) * x4)) + (0 : Int32)).toNatClampNeg dy) (((55 : Int32) + ((3 : Int32) * x4)) + (1 : Int32)).toNatClampNeg dr) (((55 : Int32) + ((3 : Int32) * x4)) + (2 : Int32)).toNatClampNeg op) (4 : Int32).toNatClampNeg) + (1 : Int32))) (4 : Int32).toNatClampNeg), (mo0 dL (upd (upd (upd (upd dL.1 (((55 : Int32) + ((3 : Int32) * x4)) + (0 : Int32)).toNatClampNeg dy) (((55 : Int32) + ((3 : Int32) * x4)) + (1 : Int32)).toNatClampNeg dr) (((55 : Int32) + ((3 : Int32) * x4)) + (2 : Int32)).toNatClampNeg op) (4 : Int32).toNatClampNeg (((upd (upd (upd dL.1 (((55 : Int32) + ((3 : Int32) * x4)) + (0 : Int32)).toNatClampNeg dy) (((55 : Int32) + ((3 : Int32) * x4)) + (1 : Int32)).toNatClampNeg dr) (((55 : Int32) + ((3 : Int32) * x4)) + (2 : Int32)).toNatClampNeg op) (4 : Int32).toNatClampNeg) + (1 : Int32)))))) hx hb hr hlk rfl hS rfl hF.symm hP hD (Nat.le_of_ble_eq_true rfl) (Nat.le_of_ble_eq_true rfl) dX10_excepts_260
                        · have hF := hF.trans (if_neg c_26)
                          have hok := Eq.mp (if_neg c_26) hok
                          refine lv_aload_n hx hb dX10_excepts_114 rfl (lv_at hl 1 rfl) ?_
                          refine lv_iload hx hb dX10_excepts_115 (lv_at hl 0 rfl) ?_
                          refine lv_iconst (v := (1 : Int32)) hx hb dX10_excepts_117 (by decide) ?_
                          refine lv_isub hx hb dX10_excepts_118 ?_
                          refine lv_iconst (v := (0 : Int32)) hx hb dX10_excepts_119 (by decide) ?_
                          have k_30 := hok.1
                          have hok := hok.2
                          refine r_V (own := RX10) (v := (some (.int (f_X10_ofException dL (x4 - (1 : Int32)) (0 : Int32))))) (st1 := [.int (f_X10_ofException dL (x4 - (1 : Int32)) (0 : Int32))]) (As := [.int (x4 - (1 : Int32)), .int (0 : Int32)]) (rest := []) (c_X10_ofException l G dh0 dh1 dh2 dh3 dh4 dh5 dh6 dh7 dL (x4 - (1 : Int32)) (0 : Int32) k_30) ⟨hx, hb, hml, hown, hts⟩ g_X10_82 hdv_X10_ofException hK hST hS hP [0, 1, 2, 3, 4, 5, 6, 7] rfl (k0 := 0) rfl rfl rfl ⟨Nat.le_of_ble_eq_true rfl, Nat.le_of_ble_eq_true rfl⟩ ⟨Nat.le_of_ble_eq_true rfl, Nat.le_of_ble_eq_true rfl⟩ rfl hl.1 rfl (Nat.le_of_ble_eq_true rfl) dX10_excepts_120 rfl (fun b_31 => ?_)
                          refine lv_iload_n hx hb dX10_excepts_123 rfl (lv_at hl 3 rfl) ?_
                          refine lv_icmp_gt (tgt := 153) hx hb dX10_excepts_124 (by decide) (fun c_32 => ?_) (fun c_32 => ?_)
                          · have hF := hF.trans (if_pos c_32)
                            have hok := Eq.mp (if_pos c_32) hok
                            refine lv_iconst (v := (0 : Int32)) hx hb dX10_excepts_153 (by decide) ?_
                            refine lv_istore (lv' := [(5, .int (0 : Int32)), (4, .int x4), (0, .ref dh0), (1, .int dr), (2, .int dy), (3, .int op)]) hx hb dX10_excepts_154 hl (by decide) rfl (fun ls hl => ?_)
                            have hkI := hok.1
                            have hok := hok.2
                            have K156 : ∀ (r_37 : Int32 × MoV), r_37 = (lp_X10_excepts_156 d dr dy op u_4 u_9 u_14 u_24 x4 dL ((((3 : Int32)).toInt - ((0 : Int32)).toInt).toNat + 1) (0 : Int32) dL) → ∀ (H : Heap) (locs : List Loc), ∀ (ls : Array Slot), lv_has ls 6 [(5, .int r_37.1), (4, .int x4), (0, .ref dh0), (1, .int dr), (2, .int dy), (3, .int op)] → va_P G.1 vwCl (fl [wMo G dh0 dh1 dh2 dh3 dh4 dh5 dh6 dh7 r_37.2]) H → va_D A (fl [wMo G dh0 dh1 dh2 dh3 dh4 dh5 dh6 dh7 r_37.2]) → va_S A s.heap H locs → W p l e (rmd 3 0 0) s m ([.ref dh0, .int dr, .int dy, .int op] : List Value).toArray below meth c H locs 0 0 (MQ below (wQ (fun u : Int32 × MoV => some (.int u.1)) (fun u : Int32 × MoV => u = f_X10_excepts d dr dy op) (fun u : Int32 × MoV => fl [wMo G dh0 dh1 dh2 dh3 dh4 dh5 dh6 dh7 u.2]) G.1 A) ([.ref dh0, .int dr, .int dy, .int op] : List Value).toArray s 0 0 A) (F0 m 193 ls []) := by
                              intro r_37 er_37 H locs ls hl hP hD hS
                              have hF : f_X10_excepts d dr dy op = (lp_X10_excepts_109 d dr dy op u_4 u_9 u_14 u_24 n (x4 + (-1)) r_37.2) := by subst er_37; exact hF
                              have hok : (okl_lp_X10_excepts_109 d dr dy op u_4 u_9 u_14 u_24 n (x4 + (-1)) r_37.2) := by subst er_37; exact hok
                              refine lv_iinc (v := (x4 + (-1))) (lv' := [(4, .int (x4 + (-1))), (5, .int r_37.1), (0, .ref dh0), (1, .int dr), (2, .int dy), (3, .int op)]) hx hb dX10_excepts_193 hl (k := 1) rfl rfl (by decide) rfl (fun ls hl => ?_)
                              refine lv_goto (tgt := 109) hx hb dX10_excepts_196 (by decide) ?_
                              exact ih (x4 + (-1)) r_37.2 _ _ ls (lv_sub hl [0, 2, 3, 4, 5] rfl) hP hD hS (dnI_s (Int32.not_le.mp c_26) hu) hF hok
                            have L156 : ∀ (n : Nat) (x5 : Int32) (dL' : MoV) (H : Heap) (locs : List Loc) (ls : Array Slot), lv_has ls 6 [(5, .int x5), (4, .int x4), (0, .ref dh0), (1, .int dr), (2, .int dy), (3, .int op)] → va_P G.1 vwCl (fl [wMo G dh0 dh1 dh2 dh3 dh4 dh5 dh6 dh7 dL']) H → va_D A (fl [wMo G dh0 dh1 dh2 dh3 dh4 dh5 dh6 dh7 dL']) → va_S A s.heap H locs → (upI x5 (3 : Int32) n) → (lp_X10_excepts_156 d dr dy op u_4 u_9 u_14 u_24 x4 dL ((((3 : Int32)).toInt - ((0 : Int32)).toInt).toNat + 1) (0 : Int32) dL) = lp_X10_excepts_156 d dr dy op u_4 u_9 u_14 u_24 x4 dL n x5 dL' → okl_lp_X10_excepts_156 d dr dy op u_4 u_9 u_14 u_24 x4 dL n x5 dL' → W p l e (rmd 3 0 0) s m ([.ref dh0, .int dr, .int dy, .int op] : List Value).toArray below meth c H locs 0 0 (MQ below (wQ (fun u : Int32 × MoV => some (.int u.1)) (fun u : Int32 × MoV => u = f_X10_excepts d dr dy op) (fun u : Int32 × MoV => fl [wMo G dh0 dh1 dh2 dh3 dh4 dh5 dh6 dh7 u.2]) G.1 A) ([.ref dh0, .int dr, .int dy, .int op] : List Value).toArray s 0 0 A) (F0 m 156 ls []) := by
                              intro n
                              induction n with
                              | zero => intro x5 dL' H locs ls hl _ _ _ hu; exact absurd hu (upI_0)
                              | succ n ih =>
                                intro x5 dL' H locs ls hl hP hD hS hu hI hok
                                have hI : (lp_X10_excepts_156 d dr dy op u_4 u_9 u_14 u_24 x4 dL ((((3 : Int32)).toInt - ((0 : Int32)).toInt).toNat + 1) (0 : Int32) dL) = (if (3 : Int32) ≤ x5 then (x5, dL') else (lp_X10_excepts_156 d dr dy op u_4 u_9 u_14 u_24 x4 dL n (x5 + 1) (mo0 dL' (upd dL'.1 (((55 : Int32) + ((3 : Int32) * x4)) + x5).toNatClampNeg (f_X10_ofException dL' (x4 - (1 : Int32)) x5))))) := hI
                                have hok : (if (3 : Int32) ≤ x5 then True else (ok_X10_ofException dL' (x4 - (1 : Int32)) x5 ∧ (vp_in (((55 : Int32) + ((3 : Int32) * x4)) + x5) 249 ∧ (okl_lp_X10_excepts_156 d dr dy op u_4 u_9 u_14 u_24 x4 dL n (x5 + 1) (mo0 dL' (upd dL'.1 (((55 : Int32) + ((3 : Int32) * x4)) + x5).toNatClampNeg (f_X10_ofException dL' (x4 - (1 : Int32)) x5))))))) := hok
                                refine lv_iload hx hb dX10_excepts_156 (lv_at hl 0 rfl) ?_
                                refine lv_iconst (v := (3 : Int32)) hx hb dX10_excepts_158 (by decide) ?_
                                refine lv_icmp_ge (tgt := 193) hx hb dX10_excepts_159 (by decide) (fun c_33 => ?_) (fun c_33 => ?_)
                                · have hI := hI.trans (if_pos c_33)
                                  have hok := Eq.mp (if_pos c_33) hok
                                  exact K156 _ hI.symm _ _ ls (lv_sub hl [0, 1, 2, 3, 4, 5] rfl) hP hD hS
                                · have hI := hI.trans (if_neg c_33)
                                  have hok := Eq.mp (if_neg c_33) hok
                                  refine lv_aload_n hx hb dX10_excepts_162 rfl (lv_at hl 2 rfl) ?_
                                  refine va_get (D := G.1) (ci := 12) (v := .ref dh1) (C := RX10) (T := TX10) (N := 17) hx hb hts uws_X10 hown hK hP 0 rfl rfl 0 (by decide) (hts _ u_1680) (fun _ h9 => h9) rfl dX10_excepts_163 ?_
                                  refine lv_bipush (v := (55 : Int32)) hx hb dX10_excepts_166 (by decide) ?_
                                  refine lv_iconst (v := (3 : Int32)) hx hb dX10_excepts_168 (by decide) ?_
                                  refine lv_iload hx hb dX10_excepts_169 (lv_at hl 1 rfl) ?_
                                  refine lv_imul hx hb dX10_excepts_171 ?_
                                  refine lv_iadd hx hb dX10_excepts_172 ?_
                                  refine lv_iload hx hb dX10_excepts_173 (lv_at hl 0 rfl) ?_
                                  refine lv_iadd hx hb dX10_excepts_175 ?_
                                  refine lv_aload_n hx hb dX10_excepts_176 rfl (lv_at hl 2 rfl) ?_
                                  refine lv_iload hx hb dX10_excepts_177 (lv_at hl 1 rfl) ?_
                                  refine lv_iconst (v := (1 : Int32)) hx hb dX10_excepts_179 (by decide) ?_
                                  refine lv_isub hx hb dX10_excepts_180 ?_
                                  refine lv_iload hx hb dX10_excepts_181 (lv_at hl 0 rfl) ?_
                                  have k_34 := hok.1
                                  have hok := hok.2
                                  refine r_V (own := RX10) (v := (some (.int (f_X10_ofException dL' (x4 - (1 : Int32)) x5)))) (st1 := [.int (f_X10_ofException dL' (x4 - (1 : Int32)) x5), .int (((55 : Int32) + ((3 : Int32) * x4)) + x5), .ref dh1]) (As := [.int (x4 - (1 : Int32)), .int x5]) (rest := [.int (((55 : Int32) + ((3 : Int32) * x4)) + x5), .ref dh1]) (c_X10_ofException l G dh0 dh1 dh2 dh3 dh4 dh5 dh6 dh7 dL' (x4 - (1 : Int32)) x5 k_34) ⟨hx, hb, hml, hown, hts⟩ g_X10_82 hdv_X10_ofException hK hST hS hP [0, 1, 2, 3, 4, 5, 6, 7] rfl (k0 := 0) rfl rfl rfl ⟨Nat.le_of_ble_eq_true rfl, Nat.le_of_ble_eq_true rfl⟩ ⟨Nat.le_of_ble_eq_true rfl, Nat.le_of_ble_eq_true rfl⟩ rfl hl.1 rfl (Nat.le_of_ble_eq_true rfl) dX10_excepts_183 rfl (fun b_35 => ?_)
                                  have h_36 := hok.1
                                  have hok := hok.2
                                  refine va_iast hx hb hK hP hD hS 1 0 rfl rfl h_36 dX10_excepts_186 (fun H locs hP hD hS => ?_)
                                  have hP : va_P G.1 vwCl (fl [wMo G dh0 dh1 dh2 dh3 dh4 dh5 dh6 dh7 (mo0 dL' (upd dL'.1 (((55 : Int32) + ((3 : Int32) * x4)) + x5).toNatClampNeg (f_X10_ofException dL' (x4 - (1 : Int32)) x5)))]) H := hP
                                  have hD : va_D A (fl [wMo G dh0 dh1 dh2 dh3 dh4 dh5 dh6 dh7 (mo0 dL' (upd dL'.1 (((55 : Int32) + ((3 : Int32) * x4)) + x5).toNatClampNeg (f_X10_ofException dL' (x4 - (1 : Int32)) x5)))]) := hD
                                  refine lv_iinc (v := (x5 + 1)) (lv' := [(5, .int (x5 + 1)), (4, .int x4), (0, .ref dh0), (1, .int dr), (2, .int dy), (3, .int op)]) hx hb dX10_excepts_187 hl (k := 0) rfl rfl (by decide) rfl (fun ls hl => ?_)
                                  refine lv_goto (tgt := 156) hx hb dX10_excepts_190 (by decide) ?_
                                  exact ih (x5 + 1) (mo0 dL' (upd dL'.1 (((55 : Int32) + ((3 : Int32) * x4)) + x5).toNatClampNeg (f_X10_ofException dL' (x4 - (1 : Int32)) x5))) _ _ ls (lv_sub hl [0, 1, 2, 3, 4, 5] rfl) hP hD hS (upI_s (Int32.not_le.mp c_33) hu) hI hok
                            exact L156 ((((3 : Int32)).toInt - ((0 : Int32)).toInt).toNat + 1) (0 : Int32) dL _ _ ls (lv_sub hl [0, 1, 2, 3, 4, 5] rfl) hP hD hS (upI_i) rfl hkI
                          · have hF := hF.trans (if_neg c_32)
                            have hok := Eq.mp (if_neg c_32) hok
                            refine lv_aload_n hx hb dX10_excepts_127 rfl (lv_at hl 1 rfl) ?_
                            refine lv_iload hx hb dX10_excepts_128 (lv_at hl 0 rfl) ?_
                            refine lv_iconst (v := (1 : Int32)) hx hb dX10_excepts_130 (by decide) ?_
                            refine lv_isub hx hb dX10_excepts_131 ?_
                            refine lv_iconst (v := (0 : Int32)) hx hb dX10_excepts_132 (by decide) ?_
                            have k_38 := hok.1
                            have hok := hok.2
                            refine r_V (own := RX10) (v := (some (.int (f_X10_ofException dL (x4 - (1 : Int32)) (0 : Int32))))) (st1 := [.int (f_X10_ofException dL (x4 - (1 : Int32)) (0 : Int32))]) (As := [.int (x4 - (1 : Int32)), .int (0 : Int32)]) (rest := []) (c_X10_ofException l G dh0 dh1 dh2 dh3 dh4 dh5 dh6 dh7 dL (x4 - (1 : Int32)) (0 : Int32) k_38) ⟨hx, hb, hml, hown, hts⟩ g_X10_82 hdv_X10_ofException hK hST hS hP [0, 1, 2, 3, 4, 5, 6, 7] rfl (k0 := 0) rfl rfl rfl ⟨Nat.le_of_ble_eq_true rfl, Nat.le_of_ble_eq_true rfl⟩ ⟨Nat.le_of_ble_eq_true rfl, Nat.le_of_ble_eq_true rfl⟩ rfl hl.1 rfl (Nat.le_of_ble_eq_true rfl) dX10_excepts_133 rfl (fun b_39 => ?_)
                            refine lv_iload_n hx hb dX10_excepts_136 rfl (lv_at hl 3 rfl) ?_
                            refine lv_icmp_ne (tgt := 199) hx hb dX10_excepts_137 (by decide) (fun c_40 => ?_) (fun c_40 => ?_)
                            · have hF := hF.trans (if_neg c_40)
                              have hok := Eq.mp (if_neg c_40) hok
                              refine lv_aload_n hx hb dX10_excepts_199 rfl (lv_at hl 1 rfl) ?_
                              refine va_get (D := G.1) (ci := 12) (v := .ref dh1) (C := RX10) (T := TX10) (N := 17) hx hb hts uws_X10 hown hK hP 0 rfl rfl 0 (by decide) (hts _ u_1680) (fun _ h9 => h9) rfl dX10_excepts_200 ?_
                              refine lv_bipush (v := (55 : Int32)) hx hb dX10_excepts_203 (by decide) ?_
                              refine lv_iconst (v := (3 : Int32)) hx hb dX10_excepts_205 (by decide) ?_
                              refine lv_iload hx hb dX10_excepts_206 (lv_at hl 0 rfl) ?_
                              refine lv_imul hx hb dX10_excepts_208 ?_
                              refine lv_iadd hx hb dX10_excepts_209 ?_
                              refine lv_iconst (v := (0 : Int32)) hx hb dX10_excepts_210 (by decide) ?_
                              refine lv_iadd hx hb dX10_excepts_211 ?_
                              refine lv_iload_n hx hb dX10_excepts_212 rfl (lv_at hl 3 rfl) ?_
                              have h_41 := hok.1
                              have hok := hok.2
                              refine va_iast hx hb hK hP hD hS 1 0 rfl rfl h_41 dX10_excepts_213 (fun H locs hP hD hS => ?_)
                              have hP : va_P G.1 vwCl (fl [wMo G dh0 dh1 dh2 dh3 dh4 dh5 dh6 dh7 (mo0 dL (upd dL.1 (((55 : Int32) + ((3 : Int32) * x4)) + (0 : Int32)).toNatClampNeg dy))]) H := hP
                              have hD : va_D A (fl [wMo G dh0 dh1 dh2 dh3 dh4 dh5 dh6 dh7 (mo0 dL (upd dL.1 (((55 : Int32) + ((3 : Int32) * x4)) + (0 : Int32)).toNatClampNeg dy))]) := hD
                              refine lv_aload_n hx hb dX10_excepts_214 rfl (lv_at hl 1 rfl) ?_
                              refine va_get (D := G.1) (ci := 12) (v := .ref dh1) (C := RX10) (T := TX10) (N := 17) hx hb hts uws_X10 hown hK hP 0 rfl rfl 0 (by decide) (hts _ u_1680) (fun _ h9 => h9) rfl dX10_excepts_215 ?_
                              refine lv_bipush (v := (55 : Int32)) hx hb dX10_excepts_218 (by decide) ?_
                              refine lv_iconst (v := (3 : Int32)) hx hb dX10_excepts_220 (by decide) ?_
                              refine lv_iload hx hb dX10_excepts_221 (lv_at hl 0 rfl) ?_
                              refine lv_imul hx hb dX10_excepts_223 ?_
                              refine lv_iadd hx hb dX10_excepts_224 ?_
                              refine lv_iconst (v := (1 : Int32)) hx hb dX10_excepts_225 (by decide) ?_
                              refine lv_iadd hx hb dX10_excepts_226 ?_
                              refine lv_iload_n hx hb dX10_excepts_227 rfl (lv_at hl 2 rfl) ?_
                              have h_42 := hok.1
                              have hok := hok.2
                              refine va_iast hx hb hK hP hD hS 1 0 rfl rfl h_42 dX10_excepts_228 (fun H locs hP hD hS => ?_)
                              have hP : va_P G.1 vwCl (fl [wMo G dh0 dh1 dh2 dh3 dh4 dh5 dh6 dh7 (mo0 dL (upd (upd dL.1 (((55 : Int32) + ((3 : Int32) * x4)) + (0 : Int32)).toNatClampNeg dy) (((55 : Int32) + ((3 : Int32) * x4)) + (1 : Int32)).toNatClampNeg dr))]) H := hP
                              have hD : va_D A (fl [wMo G dh0 dh1 dh2 dh3 dh4 dh5 dh6 dh7 (mo0 dL (upd (upd dL.1 (((55 : Int32) + ((3 : Int32) * x4)) + (0 : Int32)).toNatClampNeg dy) (((55 : Int32) + ((3 : Int32) * x4)) + (1 : Int32)).toNatClampNeg dr))]) := hD
                              refine lv_aload_n hx hb dX10_excepts_229 rfl (lv_at hl 1 rfl) ?_
                              refine va_get (D := G.1) (ci := 12) (v := .ref dh1) (C := RX10) (T := TX10) (N := 17) hx hb hts uws_X10 hown hK hP 0 rfl rfl 0 (by decide) (hts _ u_1680) (fun _ h9 => h9) rfl dX10_excepts_230 ?_
                              refine lv_bipush (v := (55 : Int32)) hx hb dX10_excepts_233 (by decide) ?_
                              refine lv_iconst (v := (3 : Int32)) hx hb dX10_excepts_235 (by decide) ?_
                              refine lv_iload hx hb dX10_excepts_236 (lv_at hl 0 rfl) ?_
                              refine lv_imul hx hb dX10_excepts_238 ?_
                              refine lv_iadd hx hb dX10_excepts_239 ?_
                              refine lv_iconst (v := (2 : Int32)) hx hb dX10_excepts_240 (by decide) ?_
                              refine lv_iadd hx hb dX10_excepts_241 ?_
                              refine lv_iload_n hx hb dX10_excepts_242 rfl (lv_at hl 4 rfl) ?_
                              have h_43 := hok.1
                              have hok := hok.2
                              refine va_iast hx hb hK hP hD hS 1 0 rfl rfl h_43 dX10_excepts_243 (fun H locs hP hD hS => ?_)
                              have hP : va_P G.1 vwCl (fl [wMo G dh0 dh1 dh2 dh3 dh4 dh5 dh6 dh7 (mo0 dL (upd (upd (upd dL.1 (((55 : Int32) + ((3 : Int32) * x4)) + (0 : Int32)).toNatClampNeg dy) (((55 : Int32) + ((3 : Int32) * x4)) + (1 : Int32)).toNatClampNeg dr) (((55 : Int32) + ((3 : Int32) * x4)) + (2 : Int32)).toNatClampNeg op))]) H := hP
                              have hD : va_D A (fl [wMo G dh0 dh1 dh2 dh3 dh4 dh5 dh6 dh7 (mo0 dL (upd (upd (upd dL.1 (((55 : Int32) + ((3 : Int32) * x4)) + (0 : Int32)).toNatClampNeg dy) (((55 : Int32) + ((3 : Int32) * x4)) + (1 : Int32)).toNatClampNeg dr) (((55 : Int32) + ((3 : Int32) * x4)) + (2 : Int32)).toNatClampNeg op))]) := hD
                              refine lv_aload_n hx hb dX10_excepts_244 rfl (lv_at hl 1 rfl) ?_
                              refine va_get (D := G.1) (ci := 12) (v := .ref dh1) (C := RX10) (T := TX10) (N := 17) hx hb hts uws_X10 hown hK hP 0 rfl rfl 0 (by decide) (hts _ u_1680) (fun _ h9 => h9) rfl dX10_excepts_245 ?_
                              refine lv_iconst (v := (4 : Int32)) hx hb dX10_excepts_248 (by decide) ?_
                              refine lv_dup2_11 hx hb dX10_excepts_249 rfl rfl ?_
                              refine va_iald hx hb hK hP 1 0 rfl rfl (vp_in_nI (n := 4) (by decide) (by decide)) dX10_excepts_250 ?_
                              refine lv_iconst (v := (1 : Int32)) hx hb dX10_excepts_251 (by decide) ?_
                              refine lv_iadd hx hb dX10_excepts_252 ?_
                              refine va_iast hx hb hK hP hD hS 1 0 rfl rfl (vp_in_nI (n := 4) (by decide) (by decide)) dX10_excepts_253 (fun H locs hP hD hS => ?_)
                              have hP : va_P G.1 vwCl (fl [wMo G dh0 dh1 dh2 dh3 dh4 dh5 dh6 dh7 (mo0 dL (upd (upd (upd (upd dL.1 (((55 : Int32) + ((3 : Int32) * x4)) + (0 : Int32)).toNatClampNeg dy) (((55 : Int32) + ((3 : Int32) * x4)) + (1 : Int32)).toNatClampNeg dr) (((55 : Int32) + ((3 : Int32) * x4)) + (2 : Int32)).toNatClampNeg op) (4 : Int32).toNatClampNeg (((upd (upd (upd dL.1 (((55 : Int32) + ((3 : Int32) * x4)) + (0 : Int32)).toNatClampNeg dy) (((55 : Int32) + ((3 : Int32) * x4)) + (1 : Int32)).toNatClampNeg dr) (((55 : Int32) + ((3 : Int32) * x4)) + (2 : Int32)).toNatClampNeg op) (4 : Int32).toNatClampNeg) + (1 : Int32))))]) H := hP
                              have hD : va_D A (fl [wMo G dh0 dh1 dh2 dh3 dh4 dh5 dh6 dh7 (mo0 dL (upd (upd (upd (upd dL.1 (((55 : Int32) + ((3 : Int32) * x4)) + (0 : Int32)).toNatClampNeg dy) (((55 : Int32) + ((3 : Int32) * x4)) + (1 : Int32)).toNatClampNeg dr) (((55 : Int32) + ((3 : Int32) * x4)) + (2 : Int32)).toNatClampNeg op) (4 : Int32).toNatClampNeg (((upd (upd (upd dL.1 (((55 : Int32) + ((3 : Int32) * x4)) + (0 : Int32)).toNatClampNeg dy) (((55 : Int32) + ((3 : Int32) * x4)) + (1 : Int32)).toNatClampNeg dr) (((55 : Int32) + ((3 : Int32) * x4)) + (2 : Int32)).toNatClampNeg op) (4 : Int32).toNatClampNeg) + (1 : Int32))))]) := hD
                              refine lv_aload_n hx hb dX10_excepts_254 rfl (lv_at hl 1 rfl) ?_
                              refine va_get (D := G.1) (ci := 12) (v := .ref dh1) (C := RX10) (T := TX10) (N := 17) hx hb hts uws_X10 hown hK hP 0 rfl rfl 0 (by decide) (hts _ u_1680) (fun _ h9 => h9) rfl dX10_excepts_255 ?_
                              refine lv_iconst (v := (4 : Int32)) hx hb dX10_excepts_258 (by decide) ?_
                              refine va_iald hx hb hK hP 1 0 rfl rfl (vp_in_nI (n := 4) (by decide) (by decide)) dX10_excepts_259 ?_
                              exact w_ret (u := (((upd (upd (upd (upd dL.1 (((55 : Int32) + ((3 : Int32) * x4)) + (0 : Int32)).toNatClampNeg dy) (((55 : Int32) + ((3 : Int32) * x4)) + (1 : Int32)).toNatClampNeg dr) (((55 : Int32) + ((3 : Int32) * x4)) + (2 : Int32)).toNatClampNeg op) (4 : Int32).toNatClampNeg (((upd (upd (upd dL.1 (((55 : Int32) + ((3 : Int32) * x4)) + (0 : Int32)).toNatClampNeg dy) (((55 : Int32) + ((3 : Int32) * x4)) + (1 : Int32)).toNatClampNeg dr) (((55 : Int32) + ((3 : Int32) * x4)) + (2 : Int32)).toNatClampNeg op) (4 : Int32).toNatClampNeg) + (1 : Int32))) (4 : Int32).toNatClampNeg), (mo0 dL (upd (upd (upd (upd dL.1 (((55 : Int32) + ((3 : Int32) * x4)) + (0 : Int32)).toNatClampNeg dy) (((55 : Int32) + ((3 : Int32) * x4)) + (1 : Int32)).toNatClampNeg dr) (((55 : Int32) + ((3 : Int32) * x4)) + (2 : Int32)).toNatClampNeg op) (4 : Int32).toNatClampNeg (((upd (upd (upd dL.1 (((55 : Int32) + ((3 : Int32) * x4)) + (0 : Int32)).toNatClampNeg dy) (((55 : Int32) + ((3 : Int32) * x4)) + (1 : Int32)).toNatClampNeg dr) (((55 : Int32) + ((3 : Int32) * x4)) + (2 : Int32)).toNatClampNeg op) (4 : Int32).toNatClampNeg) + (1 : Int32)))))) hx hb hr hlk rfl hS rfl hF.symm hP hD (Nat.le_of_ble_eq_true rfl) (Nat.le_of_ble_eq_true rfl) dX10_excepts_260
                            · have hF := hF.trans (if_pos c_40)
                              have hok := Eq.mp (if_pos c_40) hok
                              refine lv_aload_n hx hb dX10_excepts_140 rfl (lv_at hl 1 rfl) ?_
                              refine lv_iload hx hb dX10_excepts_141 (lv_at hl 0 rfl) ?_
                              refine lv_iconst (v := (1 : Int32)) hx hb dX10_excepts_143 (by decide) ?_
                              refine lv_isub hx hb dX10_excepts_144 ?_
                              refine lv_iconst (v := (1 : Int32)) hx hb dX10_excepts_145 (by decide) ?_
                              have k_44 := hok.1
                              have hok := hok.2
                              refine r_V (own := RX10) (v := (some (.int (f_X10_ofException dL (x4 - (1 : Int32)) (1 : Int32))))) (st1 := [.int (f_X10_ofException dL (x4 - (1 : Int32)) (1 : Int32))]) (As := [.int (x4 - (1 : Int32)), .int (1 : Int32)]) (rest := []) (c_X10_ofException l G dh0 dh1 dh2 dh3 dh4 dh5 dh6 dh7 dL (x4 - (1 : Int32)) (1 : Int32) k_44) ⟨hx, hb, hml, hown, hts⟩ g_X10_82 hdv_X10_ofException hK hST hS hP [0, 1, 2, 3, 4, 5, 6, 7] rfl (k0 := 0) rfl rfl rfl ⟨Nat.le_of_ble_eq_true rfl, Nat.le_of_ble_eq_true rfl⟩ ⟨Nat.le_of_ble_eq_true rfl, Nat.le_of_ble_eq_true rfl⟩ rfl hl.1 rfl (Nat.le_of_ble_eq_true rfl) dX10_excepts_146 rfl (fun b_45 => ?_)
                              refine lv_iload_n hx hb dX10_excepts_149 rfl (lv_at hl 2 rfl) ?_
                              refine lv_icmp_le (tgt := 199) hx hb dX10_excepts_150 (by decide) (fun c_46 => ?_) (fun c_46 => ?_)
                              · have hF := hF.trans (if_pos c_46)
                                have hok := Eq.mp (if_pos c_46) hok
                                refine lv_aload_n hx hb dX10_excepts_199 rfl (lv_at hl 1 rfl) ?_
                                refine va_get (D := G.1) (ci := 12) (v := .ref dh1) (C := RX10) (T := TX10) (N := 17) hx hb hts uws_X10 hown hK hP 0 rfl rfl 0 (by decide) (hts _ u_1680) (fun _ h9 => h9) rfl dX10_excepts_200 ?_
                                refine lv_bipush (v := (55 : Int32)) hx hb dX10_excepts_203 (by decide) ?_
                                refine lv_iconst (v := (3 : Int32)) hx hb dX10_excepts_205 (by decide) ?_
                                refine lv_iload hx hb dX10_excepts_206 (lv_at hl 0 rfl) ?_
                                refine lv_imul hx hb dX10_excepts_208 ?_
                                refine lv_iadd hx hb dX10_excepts_209 ?_
                                refine lv_iconst (v := (0 : Int32)) hx hb dX10_excepts_210 (by decide) ?_
                                refine lv_iadd hx hb dX10_excepts_211 ?_
                                refine lv_iload_n hx hb dX10_excepts_212 rfl (lv_at hl 3 rfl) ?_
                                have h_47 := hok.1
                                have hok := hok.2
                                refine va_iast hx hb hK hP hD hS 1 0 rfl rfl h_47 dX10_excepts_213 (fun H locs hP hD hS => ?_)
                                have hP : va_P G.1 vwCl (fl [wMo G dh0 dh1 dh2 dh3 dh4 dh5 dh6 dh7 (mo0 dL (upd dL.1 (((55 : Int32) + ((3 : Int32) * x4)) + (0 : Int32)).toNatClampNeg dy))]) H := hP
                                have hD : va_D A (fl [wMo G dh0 dh1 dh2 dh3 dh4 dh5 dh6 dh7 (mo0 dL (upd dL.1 (((55 : Int32) + ((3 : Int32) * x4)) + (0 : Int32)).toNatClampNeg dy))]) := hD
                                refine lv_aload_n hx hb dX10_excepts_214 rfl (lv_at hl 1 rfl) ?_
                                refine va_get (D := G.1) (ci := 12) (v := .ref dh1) (C := RX10) (T := TX10) (N := 17) hx hb hts uws_X10 hown hK hP 0 rfl rfl 0 (by decide) (hts _ u_1680) (fun _ h9 => h9) rfl dX10_excepts_215 ?_
                                refine lv_bipush (v := (55 : Int32)) hx hb dX10_excepts_218 (by decide) ?_
                                refine lv_iconst (v := (3 : Int32)) hx hb dX10_excepts_220 (by decide) ?_
                                refine lv_iload hx hb dX10_excepts_221 (lv_at hl 0 rfl) ?_
                                refine lv_imul hx hb dX10_excepts_223 ?_
                                refine lv_iadd hx hb dX10_excepts_224 ?_
                                refine lv_iconst (v := (1 : Int32)) hx hb dX10_excepts_225 (by decide) ?_
                                refine lv_iadd hx hb dX10_excepts_226 ?_
                                refine lv_iload_n hx hb dX10_excepts_227 rfl (lv_at hl 2 rfl) ?_
                                have h_48 := hok.1
                                have hok := hok.2
                                refine va_iast hx hb hK hP hD hS 1 0 rfl rfl h_48 dX10_excepts_228 (fun H locs hP hD hS => ?_)
                                have hP : va_P G.1 vwCl (fl [wMo G dh0 dh1 dh2 dh3 dh4 dh5 dh6 dh7 (mo0 dL (upd (upd dL.1 (((55 : Int32) + ((3 : Int32) * x4)) + (0 : Int32)).toNatClampNeg dy) (((55 : Int32) + ((3 : Int32) * x4)) + (1 : Int32)).toNatClampNeg dr))]) H := hP
                                have hD : va_D A (fl [wMo G dh0 dh1 dh2 dh3 dh4 dh5 dh6 dh7 (mo0 dL (upd (upd dL.1 (((55 : Int32) + ((3 : Int32) * x4)) + (0 : Int32)).toNatClampNeg dy) (((55 : Int32) + ((3 : Int32) * x4)) + (1 : Int32)).toNatClampNeg dr))]) := hD
                                refine lv_aload_n hx hb dX10_excepts_229 rfl (lv_at hl 1 rfl) ?_
                                refine va_get (D := G.1) (ci := 12) (v := .ref dh1) (C := RX10) (T := TX10) (N := 17) hx hb hts uws_X10 hown hK hP 0 rfl rfl 0 (by decide) (hts _ u_1680) (fun _ h9 => h9) rfl dX10_excepts_230 ?_
                                refine lv_bipush (v := (55 : Int32)) hx hb dX10_excepts_233 (by decide) ?_
                                refine lv_iconst (v := (3 : Int32)) hx hb dX10_excepts_235 (by decide) ?_
                                refine lv_iload hx hb dX10_excepts_236 (lv_at hl 0 rfl) ?_
                                refine lv_imul hx hb dX10_excepts_238 ?_
                                refine lv_iadd hx hb dX10_excepts_239 ?_
                                refine lv_iconst (v := (2 : Int32)) hx hb dX10_excepts_240 (by decide) ?_
                                refine lv_iadd hx hb dX10_excepts_241 ?_
                                refine lv_iload_n hx hb dX10_excepts_242 rfl (lv_at hl 4 rfl) ?_
                                have h_49 := hok.1
                                have hok := hok.2
                                refine va_iast hx hb hK hP hD hS 1 0 rfl rfl h_49 dX10_excepts_243 (fun H locs hP hD hS => ?_)
                                have hP : va_P G.1 vwCl (fl [wMo G dh0 dh1 dh2 dh3 dh4 dh5 dh6 dh7 (mo0 dL (upd (upd (upd dL.1 (((55 : Int32) + ((3 : Int32) * x4)) + (0 : Int32)).toNatClampNeg dy) (((55 : Int32) + ((3 : Int32) * x4)) + (1 : Int32)).toNatClampNeg dr) (((55 : Int32) + ((3 : Int32) * x4)) + (2 : Int32)).toNatClampNeg op))]) H := hP
                                have hD : va_D A (fl [wMo G dh0 dh1 dh2 dh3 dh4 dh5 dh6 dh7 (mo0 dL (upd (upd (upd dL.1 (((55 : Int32) + ((3 : Int32) * x4)) + (0 : Int32)).toNatClampNeg dy) (((55 : Int32) + ((3 : Int32) * x4)) + (1 : Int32)).toNatClampNeg dr) (((55 : Int32) + ((3 : Int32) * x4)) + (2 : Int32)).toNatClampNeg op))]) := hD
                                refine lv_aload_n hx hb dX10_excepts_244 rfl (lv_at hl 1 rfl) ?_
                                refine va_get (D := G.1) (ci := 12) (v := .ref dh1) (C := RX10) (T := TX10) (N := 17) hx hb hts uws_X10 hown hK hP 0 rfl rfl 0 (by decide) (hts _ u_1680) (fun _ h9 => h9) rfl dX10_excepts_245 ?_
                                refine lv_iconst (v := (4 : Int32)) hx hb dX10_excepts_248 (by decide) ?_
                                refine lv_dup2_11 hx hb dX10_excepts_249 rfl rfl ?_
                                refine va_iald hx hb hK hP 1 0 rfl rfl (vp_in_nI (n := 4) (by decide) (by decide)) dX10_excepts_250 ?_
                                refine lv_iconst (v := (1 : Int32)) hx hb dX10_excepts_251 (by decide) ?_
                                refine lv_iadd hx hb dX10_excepts_252 ?_
                                refine va_iast hx hb hK hP hD hS 1 0 rfl rfl (vp_in_nI (n := 4) (by decide) (by decide)) dX10_excepts_253 (fun H locs hP hD hS => ?_)
                                have hP : va_P G.1 vwCl (fl [wMo G dh0 dh1 dh2 dh3 dh4 dh5 dh6 dh7 (mo0 dL (upd (upd (upd (upd dL.1 (((55 : Int32) + ((3 : Int32) * x4)) + (0 : Int32)).toNatClampNeg dy) (((55 : Int32) + ((3 : Int32) * x4)) + (1 : Int32)).toNatClampNeg dr) (((55 : Int32) + ((3 : Int32) * x4)) + (2 : Int32)).toNatClampNeg op) (4 : Int32).toNatClampNeg (((upd (upd (upd dL.1 (((55 : Int32) + ((3 : Int32) * x4)) + (0 : Int32)).toNatClampNeg dy) (((55 : Int32) + ((3 : Int32) * x4)) + (1 : Int32)).toNatClampNeg dr) (((55 : Int32) + ((3 : Int32) * x4)) + (2 : Int32)).toNatClampNeg op) (4 : Int32).toNatClampNeg) + (1 : Int32))))]) H := hP
                                have hD : va_D A (fl [wMo G dh0 dh1 dh2 dh3 dh4 dh5 dh6 dh7 (mo0 dL (upd (upd (upd (upd dL.1 (((55 : Int32) + ((3 : Int32) * x4)) + (0 : Int32)).toNatClampNeg dy) (((55 : Int32) + ((3 : Int32) * x4)) + (1 : Int32)).toNatClampNeg dr) (((55 : Int32) + ((3 : Int32) * x4)) + (2 : Int32)).toNatClampNeg op) (4 : Int32).toNatClampNeg (((upd (upd (upd dL.1 (((55 : Int32) + ((3 : Int32) * x4)) + (0 : Int32)).toNatClampNeg dy) (((55 : Int32) + ((3 : Int32) * x4)) + (1 : Int32)).toNatClampNeg dr) (((55 : Int32) + ((3 : Int32) * x4)) + (2 : Int32)).toNatClampNeg op) (4 : Int32).toNatClampNeg) + (1 : Int32))))]) := hD
                                refine lv_aload_n hx hb dX10_excepts_254 rfl (lv_at hl 1 rfl) ?_
                                refine va_get (D := G.1) (ci := 12) (v := .ref dh1) (C := RX10) (T := TX10) (N := 17) hx hb hts uws_X10 hown hK hP 0 rfl rfl 0 (by decide) (hts _ u_1680) (fun _ h9 => h9) rfl dX10_excepts_255 ?_
                                refine lv_iconst (v := (4 : Int32)) hx hb dX10_excepts_258 (by decide) ?_
                                refine va_iald hx hb hK hP 1 0 rfl rfl (vp_in_nI (n := 4) (by decide) (by decide)) dX10_excepts_259 ?_
                                exact w_ret (u := (((upd (upd (upd (upd dL.1 (((55 : Int32) + ((3 : Int32) * x4)) + (0 : Int32)).toNatClampNeg dy) (((55 : Int32) + ((3 : Int32) * x4)) + (1 : Int32)).toNatClampNeg dr) (((55 : Int32) + ((3 : Int32) * x4)) + (2 : Int32)).toNatClampNeg op) (4 : Int32).toNatClampNeg (((upd (upd (upd dL.1 (((55 : Int32) + ((3 : Int32) * x4)) + (0 : Int32)).toNatClampNeg dy) (((55 : Int32) + ((3 : Int32) * x4)) + (1 : Int32)).toNatClampNeg dr) (((55 : Int32) + ((3 : Int32) * x4)) + (2 : Int32)).toNatClampNeg op) (4 : Int32).toNatClampNeg) + (1 : Int32))) (4 : Int32).toNatClampNeg), (mo0 dL (upd (upd (upd (upd dL.1 (((55 : Int32) + ((3 : Int32) * x4)) + (0 : Int32)).toNatClampNeg dy) (((55 : Int32) + ((3 : Int32) * x4)) + (1 : Int32)).toNatClampNeg dr) (((55 : Int32) + ((3 : Int32) * x4)) + (2 : Int32)).toNatClampNeg op) (4 : Int32).toNatClampNeg (((upd (upd (upd dL.1 (((55 : Int32) + ((3 : Int32) * x4)) + (0 : Int32)).toNatClampNeg dy) (((55 : Int32) + ((3 : Int32) * x4)) + (1 : Int32)).toNatClampNeg dr) (((55 : Int32) + ((3 : Int32) * x4)) + (2 : Int32)).toNatClampNeg op) (4 : Int32).toNatClampNeg) + (1 : Int32)))))) hx hb hr hlk rfl hS rfl hF.symm hP hD (Nat.le_of_ble_eq_true rfl) (Nat.le_of_ble_eq_true rfl) dX10_excepts_260
                              · have hF := hF.trans (if_neg c_46)
                                have hok := Eq.mp (if_neg c_46) hok
                                refine lv_iconst (v := (0 : Int32)) hx hb dX10_excepts_153 (by decide) ?_
                                refine lv_istore (lv' := [(5, .int (0 : Int32)), (4, .int x4), (0, .ref dh0), (1, .int dr), (2, .int dy), (3, .int op)]) hx hb dX10_excepts_154 hl (by decide) rfl (fun ls hl => ?_)
                                have hkI := hok.1
                                have hok := hok.2
                                have K156 : ∀ (r_54 : Int32 × MoV), r_54 = (lp_X10_excepts_156' d dr dy op u_4 u_9 u_14 u_24 x4 dL ((((3 : Int32)).toInt - ((0 : Int32)).toInt).toNat + 1) (0 : Int32) dL) → ∀ (H : Heap) (locs : List Loc), ∀ (ls : Array Slot), lv_has ls 6 [(5, .int r_54.1), (4, .int x4), (0, .ref dh0), (1, .int dr), (2, .int dy), (3, .int op)] → va_P G.1 vwCl (fl [wMo G dh0 dh1 dh2 dh3 dh4 dh5 dh6 dh7 r_54.2]) H → va_D A (fl [wMo G dh0 dh1 dh2 dh3 dh4 dh5 dh6 dh7 r_54.2]) → va_S A s.heap H locs → W p l e (rmd 3 0 0) s m ([.ref dh0, .int dr, .int dy, .int op] : List Value).toArray below meth c H locs 0 0 (MQ below (wQ (fun u : Int32 × MoV => some (.int u.1)) (fun u : Int32 × MoV => u = f_X10_excepts d dr dy op) (fun u : Int32 × MoV => fl [wMo G dh0 dh1 dh2 dh3 dh4 dh5 dh6 dh7 u.2]) G.1 A) ([.ref dh0, .int dr, .int dy, .int op] : List Value).toArray s 0 0 A) (F0 m 193 ls []) := by
                                  intro r_54 er_54 H locs ls hl hP hD hS
                                  have hF : f_X10_excepts d dr dy op = (lp_X10_excepts_109 d dr dy op u_4 u_9 u_14 u_24 n (x4 + (-1)) r_54.2) := by subst er_54; exact hF
                                  have hok : (okl_lp_X10_excepts_109 d dr dy op u_4 u_9 u_14 u_24 n (x4 + (-1)) r_54.2) := by subst er_54; exact hok
                                  refine lv_iinc (v := (x4 + (-1))) (lv' := [(4, .int (x4 + (-1))), (5, .int r_54.1), (0, .ref dh0), (1, .int dr), (2, .int dy), (3, .int op)]) hx hb dX10_excepts_193 hl (k := 1) rfl rfl (by decide) rfl (fun ls hl => ?_)
                                  refine lv_goto (tgt := 109) hx hb dX10_excepts_196 (by decide) ?_
                                  exact ih (x4 + (-1)) r_54.2 _ _ ls (lv_sub hl [0, 2, 3, 4, 5] rfl) hP hD hS (dnI_s (Int32.not_le.mp c_26) hu) hF hok
                                have L156 : ∀ (n : Nat) (x5 : Int32) (dL' : MoV) (H : Heap) (locs : List Loc) (ls : Array Slot), lv_has ls 6 [(5, .int x5), (4, .int x4), (0, .ref dh0), (1, .int dr), (2, .int dy), (3, .int op)] → va_P G.1 vwCl (fl [wMo G dh0 dh1 dh2 dh3 dh4 dh5 dh6 dh7 dL']) H → va_D A (fl [wMo G dh0 dh1 dh2 dh3 dh4 dh5 dh6 dh7 dL']) → va_S A s.heap H locs → (upI x5 (3 : Int32) n) → (lp_X10_excepts_156' d dr dy op u_4 u_9 u_14 u_24 x4 dL ((((3 : Int32)).toInt - ((0 : Int32)).toInt).toNat + 1) (0 : Int32) dL) = lp_X10_excepts_156' d dr dy op u_4 u_9 u_14 u_24 x4 dL n x5 dL' → okl_lp_X10_excepts_156' d dr dy op u_4 u_9 u_14 u_24 x4 dL n x5 dL' → W p l e (rmd 3 0 0) s m ([.ref dh0, .int dr, .int dy, .int op] : List Value).toArray below meth c H locs 0 0 (MQ below (wQ (fun u : Int32 × MoV => some (.int u.1)) (fun u : Int32 × MoV => u = f_X10_excepts d dr dy op) (fun u : Int32 × MoV => fl [wMo G dh0 dh1 dh2 dh3 dh4 dh5 dh6 dh7 u.2]) G.1 A) ([.ref dh0, .int dr, .int dy, .int op] : List Value).toArray s 0 0 A) (F0 m 156 ls []) := by
                                  intro n
                                  induction n with
                                  | zero => intro x5 dL' H locs ls hl _ _ _ hu; exact absurd hu (upI_0)
                                  | succ n ih =>
                                    intro x5 dL' H locs ls hl hP hD hS hu hI hok
                                    have hI : (lp_X10_excepts_156' d dr dy op u_4 u_9 u_14 u_24 x4 dL ((((3 : Int32)).toInt - ((0 : Int32)).toInt).toNat + 1) (0 : Int32) dL) = (if (3 : Int32) ≤ x5 then (x5, dL') else (lp_X10_excepts_156' d dr dy op u_4 u_9 u_14 u_24 x4 dL n (x5 + 1) (mo0 dL' (upd dL'.1 (((55 : Int32) + ((3 : Int32) * x4)) + x5).toNatClampNeg (f_X10_ofException dL' (x4 - (1 : Int32)) x5))))) := hI
                                    have hok : (if (3 : Int32) ≤ x5 then True else (ok_X10_ofException dL' (x4 - (1 : Int32)) x5 ∧ (vp_in (((55 : Int32) + ((3 : Int32) * x4)) + x5) 249 ∧ (okl_lp_X10_excepts_156' d dr dy op u_4 u_9 u_14 u_24 x4 dL n (x5 + 1) (mo0 dL' (upd dL'.1 (((55 : Int32) + ((3 : Int32) * x4)) + x5).toNatClampNeg (f_X10_ofException dL' (x4 - (1 : Int32)) x5))))))) := hok
                                    refine lv_iload hx hb dX10_excepts_156 (lv_at hl 0 rfl) ?_
                                    refine lv_iconst (v := (3 : Int32)) hx hb dX10_excepts_158 (by decide) ?_
                                    refine lv_icmp_ge (tgt := 193) hx hb dX10_excepts_159 (by decide) (fun c_50 => ?_) (fun c_50 => ?_)
                                    · have hI := hI.trans (if_pos c_50)
                                      have hok := Eq.mp (if_pos c_50) hok
                                      exact K156 _ hI.symm _ _ ls (lv_sub hl [0, 1, 2, 3, 4, 5] rfl) hP hD hS
                                    · have hI := hI.trans (if_neg c_50)
                                      have hok := Eq.mp (if_neg c_50) hok
                                      refine lv_aload_n hx hb dX10_excepts_162 rfl (lv_at hl 2 rfl) ?_
                                      refine va_get (D := G.1) (ci := 12) (v := .ref dh1) (C := RX10) (T := TX10) (N := 17) hx hb hts uws_X10 hown hK hP 0 rfl rfl 0 (by decide) (hts _ u_1680) (fun _ h9 => h9) rfl dX10_excepts_163 ?_
                                      refine lv_bipush (v := (55 : Int32)) hx hb dX10_excepts_166 (by decide) ?_
                                      refine lv_iconst (v := (3 : Int32)) hx hb dX10_excepts_168 (by decide) ?_
                                      refine lv_iload hx hb dX10_excepts_169 (lv_at hl 1 rfl) ?_
                                      refine lv_imul hx hb dX10_excepts_171 ?_
                                      refine lv_iadd hx hb dX10_excepts_172 ?_
                                      refine lv_iload hx hb dX10_excepts_173 (lv_at hl 0 rfl) ?_
                                      refine lv_iadd hx hb dX10_excepts_175 ?_
                                      refine lv_aload_n hx hb dX10_excepts_176 rfl (lv_at hl 2 rfl) ?_
                                      refine lv_iload hx hb dX10_excepts_177 (lv_at hl 1 rfl) ?_
                                      refine lv_iconst (v := (1 : Int32)) hx hb dX10_excepts_179 (by decide) ?_
                                      refine lv_isub hx hb dX10_excepts_180 ?_
                                      refine lv_iload hx hb dX10_excepts_181 (lv_at hl 0 rfl) ?_
                                      have k_51 := hok.1
                                      have hok := hok.2
                                      refine r_V (own := RX10) (v := (some (.int (f_X10_ofException dL' (x4 - (1 : Int32)) x5)))) (st1 := [.int (f_X10_ofException dL' (x4 - (1 : Int32)) x5), .int (((55 : Int32) + ((3 : Int32) * x4)) + x5), .ref dh1]) (As := [.int (x4 - (1 : Int32)), .int x5]) (rest := [.int (((55 : Int32) + ((3 : Int32) * x4)) + x5), .ref dh1]) (c_X10_ofException l G dh0 dh1 dh2 dh3 dh4 dh5 dh6 dh7 dL' (x4 - (1 : Int32)) x5 k_51) ⟨hx, hb, hml, hown, hts⟩ g_X10_82 hdv_X10_ofException hK hST hS hP [0, 1, 2, 3, 4, 5, 6, 7] rfl (k0 := 0) rfl rfl rfl ⟨Nat.le_of_ble_eq_true rfl, Nat.le_of_ble_eq_true rfl⟩ ⟨Nat.le_of_ble_eq_true rfl, Nat.le_of_ble_eq_true rfl⟩ rfl hl.1 rfl (Nat.le_of_ble_eq_true rfl) dX10_excepts_183 rfl (fun b_52 => ?_)
                                      have h_53 := hok.1
                                      have hok := hok.2
                                      refine va_iast hx hb hK hP hD hS 1 0 rfl rfl h_53 dX10_excepts_186 (fun H locs hP hD hS => ?_)
                                      have hP : va_P G.1 vwCl (fl [wMo G dh0 dh1 dh2 dh3 dh4 dh5 dh6 dh7 (mo0 dL' (upd dL'.1 (((55 : Int32) + ((3 : Int32) * x4)) + x5).toNatClampNeg (f_X10_ofException dL' (x4 - (1 : Int32)) x5)))]) H := hP
                                      have hD : va_D A (fl [wMo G dh0 dh1 dh2 dh3 dh4 dh5 dh6 dh7 (mo0 dL' (upd dL'.1 (((55 : Int32) + ((3 : Int32) * x4)) + x5).toNatClampNeg (f_X10_ofException dL' (x4 - (1 : Int32)) x5)))]) := hD
                                      refine lv_iinc (v := (x5 + 1)) (lv' := [(5, .int (x5 + 1)), (4, .int x4), (0, .ref dh0), (1, .int dr), (2, .int dy), (3, .int op)]) hx hb dX10_excepts_187 hl (k := 0) rfl rfl (by decide) rfl (fun ls hl => ?_)
                                      refine lv_goto (tgt := 156) hx hb dX10_excepts_190 (by decide) ?_
                                      exact ih (x5 + 1) (mo0 dL' (upd dL'.1 (((55 : Int32) + ((3 : Int32) * x4)) + x5).toNatClampNeg (f_X10_ofException dL' (x4 - (1 : Int32)) x5))) _ _ ls (lv_sub hl [0, 1, 2, 3, 4, 5] rfl) hP hD hS (upI_s (Int32.not_le.mp c_50) hu) hI hok
                                exact L156 ((((3 : Int32)).toInt - ((0 : Int32)).toInt).toNat + 1) (0 : Int32) dL _ _ ls (lv_sub hl [0, 1, 2, 3, 4, 5] rfl) hP hD hS (upI_i) rfl hkI
                    exact L109 (((u_24.1 (4 : Int32).toNatClampNeg)).toInt.toNat + 1) (u_24.1 (4 : Int32).toNatClampNeg) u_24 _ _ ls (lv_sub hl [0, 1, 2, 3, 4] rfl) hP hD hS (dnI_i) hF hok
                  · exact absurd c_25 (by decide)
                · have hF := hF.trans (if_pos c_22)
                  have hok := Eq.mp (if_pos c_22) hok
                  refine lv_iconst (v := (1 : Int32)) hx hb dX10_excepts_87 (by decide) ?_
                  refine lv_goto (tgt := 92) hx hb dX10_excepts_88 (by decide) ?_
                  refine lv_iconst (v := (4 : Int32)) hx hb dX10_excepts_92 (by decide) ?_
                  refine w_V (own := RX10) (cs := [wMo G dh0 dh1 dh2 dh3 dh4 dh5 dh6 dh7 u_14]) (rs := []) (As := [.int (1 : Int32), .int (4 : Int32)]) (rest := []) (c_X10_isThrown l G dh0 dh1 dh2 dh3 dh4 dh5 dh6 dh7 H.size u_14 (1 : Int32) (4 : Int32) (rfl)) ⟨hx, hb, hml, hown, hts⟩ g_X10_63 hdv_X10_isThrown hK hST hS hP hD hA [0] [] rfl rfl rfl (k0 := 0) rfl rfl rfl ⟨Nat.le_of_ble_eq_true rfl, Nat.le_of_ble_eq_true rfl⟩ ⟨Nat.le_of_ble_eq_true rfl, Nat.le_of_ble_eq_true rfl⟩ rfl hl.1 rfl (Nat.le_of_ble_eq_true rfl) dX10_excepts_93 (fun u_56 H locs huu hP hD hS => ?_)
                  have eu_56 := huu
                  have hP : va_P G.1 vwCl (fl [wMo G dh0 dh1 dh2 dh3 dh4 dh5 dh6 dh7 u_56]) H := hP
                  have hD : va_D A (fl [wMo G dh0 dh1 dh2 dh3 dh4 dh5 dh6 dh7 u_56]) := hD
                  refine W.eq (g2 := F0 m 96 ls [.int (1 : Int32)]) rfl ?_
                  have hF : f_X10_excepts d dr dy op = ((0 : Int32), u_56) := by subst eu_56; exact hF
                  refine lv_if_eq (tgt := 101) hx hb dX10_excepts_96 (by decide) (fun c_57 => ?_) (fun c_57 => ?_)
                  · exact absurd c_57 (by decide)
                  · refine lv_iconst (v := (0 : Int32)) hx hb dX10_excepts_99 (by decide) ?_
                    exact w_ret (u := ((0 : Int32), u_56)) hx hb hr hlk rfl hS rfl hF.symm hP hD (Nat.le_of_ble_eq_true rfl) (Nat.le_of_ble_eq_true rfl) dX10_excepts_100
          · have hF := hF.trans (if_neg c_12)
            have hok := Eq.mp (if_neg c_12) hok
            refine lv_iconst (v := (1 : Int32)) hx hb dX10_excepts_54 (by decide) ?_
            refine lv_goto (tgt := 59) hx hb dX10_excepts_55 (by decide) ?_
            refine lv_iconst (v := (3 : Int32)) hx hb dX10_excepts_59 (by decide) ?_
            refine w_V (own := RX10) (cs := [wMo G dh0 dh1 dh2 dh3 dh4 dh5 dh6 dh7 u_9]) (rs := []) (As := [.int (1 : Int32), .int (3 : Int32)]) (rest := []) (c_X10_isThrown l G dh0 dh1 dh2 dh3 dh4 dh5 dh6 dh7 H.size u_9 (1 : Int32) (3 : Int32) (rfl)) ⟨hx, hb, hml, hown, hts⟩ g_X10_63 hdv_X10_isThrown hK hST hS hP hD hA [0] [] rfl rfl rfl (k0 := 0) rfl rfl rfl ⟨Nat.le_of_ble_eq_true rfl, Nat.le_of_ble_eq_true rfl⟩ ⟨Nat.le_of_ble_eq_true rfl, Nat.le_of_ble_eq_true rfl⟩ rfl hl.1 rfl (Nat.le_of_ble_eq_true rfl) dX10_excepts_60 (fun u_59 H locs huu hP hD hS => ?_)
            have eu_59 := huu
            have hP : va_P G.1 vwCl (fl [wMo G dh0 dh1 dh2 dh3 dh4 dh5 dh6 dh7 u_59]) H := hP
            have hD : va_D A (fl [wMo G dh0 dh1 dh2 dh3 dh4 dh5 dh6 dh7 u_59]) := hD
            refine W.eq (g2 := F0 m 63 ls [.int (1 : Int32)]) rfl ?_
            have hF : f_X10_excepts d dr dy op = ((0 : Int32), u_59) := by subst eu_59; exact hF
            refine lv_if_ne (tgt := 99) hx hb dX10_excepts_63 (by decide) (fun c_60 => ?_) (fun c_60 => ?_)
            · refine lv_iconst (v := (0 : Int32)) hx hb dX10_excepts_99 (by decide) ?_
              exact w_ret (u := ((0 : Int32), u_59)) hx hb hr hlk rfl hS rfl hF.symm hP hD (Nat.le_of_ble_eq_true rfl) (Nat.le_of_ble_eq_true rfl) dX10_excepts_100
            · exact absurd c_60 (by decide)
      · have hF := hF.trans (if_pos c_7)
        have hok := Eq.mp (if_pos c_7) hok
        refine lv_iconst (v := (1 : Int32)) hx hb dX10_excepts_33 (by decide) ?_
        refine lv_goto (tgt := 38) hx hb dX10_excepts_34 (by decide) ?_
        refine lv_iconst (v := (2 : Int32)) hx hb dX10_excepts_38 (by decide) ?_
        refine w_V (own := RX10) (cs := [wMo G dh0 dh1 dh2 dh3 dh4 dh5 dh6 dh7 u_4]) (rs := []) (As := [.int (1 : Int32), .int (2 : Int32)]) (rest := []) (c_X10_isThrown l G dh0 dh1 dh2 dh3 dh4 dh5 dh6 dh7 H.size u_4 (1 : Int32) (2 : Int32) (rfl)) ⟨hx, hb, hml, hown, hts⟩ g_X10_63 hdv_X10_isThrown hK hST hS hP hD hA [0] [] rfl rfl rfl (k0 := 0) rfl rfl rfl ⟨Nat.le_of_ble_eq_true rfl, Nat.le_of_ble_eq_true rfl⟩ ⟨Nat.le_of_ble_eq_true rfl, Nat.le_of_ble_eq_true rfl⟩ rfl hl.1 rfl (Nat.le_of_ble_eq_true rfl) dX10_excepts_39 (fun u_62 H locs huu hP hD hS => ?_)
        have eu_62 := huu
        have hP : va_P G.1 vwCl (fl [wMo G dh0 dh1 dh2 dh3 dh4 dh5 dh6 dh7 u_62]) H := hP
        have hD : va_D A (fl [wMo G dh0 dh1 dh2 dh3 dh4 dh5 dh6 dh7 u_62]) := hD
        refine W.eq (g2 := F0 m 42 ls [.int (1 : Int32)]) rfl ?_
        have hF : f_X10_excepts d dr dy op = ((0 : Int32), u_62) := by subst eu_62; exact hF
        refine lv_if_ne (tgt := 99) hx hb dX10_excepts_42 (by decide) (fun c_63 => ?_) (fun c_63 => ?_)
        · refine lv_iconst (v := (0 : Int32)) hx hb dX10_excepts_99 (by decide) ?_
          exact w_ret (u := ((0 : Int32), u_62)) hx hb hr hlk rfl hS rfl hF.symm hP hD (Nat.le_of_ble_eq_true rfl) (Nat.le_of_ble_eq_true rfl) dX10_excepts_100
        · exact absurd c_63 (by decide)
  · have hF := hF.trans (if_pos c_2)
    have hok := Eq.mp (if_pos c_2) hok
    refine lv_iconst (v := (1 : Int32)) hx hb dX10_excepts_9 (by decide) ?_
    refine lv_goto (tgt := 14) hx hb dX10_excepts_10 (by decide) ?_
    refine lv_iconst (v := (1 : Int32)) hx hb dX10_excepts_14 (by decide) ?_
    refine w_V (own := RX10) (cs := [wMo G dh0 dh1 dh2 dh3 dh4 dh5 dh6 dh7 d]) (rs := []) (As := [.int (1 : Int32), .int (1 : Int32)]) (rest := []) (c_X10_isThrown l G dh0 dh1 dh2 dh3 dh4 dh5 dh6 dh7 s.heap.size d (1 : Int32) (1 : Int32) (rfl)) ⟨hx, hb, hml, hown, hts⟩ g_X10_63 hdv_X10_isThrown hK hST hS hP hD hA [0] [] rfl rfl rfl (k0 := 0) rfl rfl rfl ⟨Nat.le_of_ble_eq_true rfl, Nat.le_of_ble_eq_true rfl⟩ ⟨Nat.le_of_ble_eq_true rfl, Nat.le_of_ble_eq_true rfl⟩ rfl hl.1 rfl (Nat.le_of_ble_eq_true rfl) dX10_excepts_15 (fun u_65 H locs huu hP hD hS => ?_)
    have eu_65 := huu
    have hP : va_P G.1 vwCl (fl [wMo G dh0 dh1 dh2 dh3 dh4 dh5 dh6 dh7 u_65]) H := hP
    have hD : va_D A (fl [wMo G dh0 dh1 dh2 dh3 dh4 dh5 dh6 dh7 u_65]) := hD
    refine W.eq (g2 := F0 m 18 ls [.int (1 : Int32)]) rfl ?_
    have hF : f_X10_excepts d dr dy op = ((0 : Int32), u_65) := by subst eu_65; exact hF
    refine lv_if_ne (tgt := 99) hx hb dX10_excepts_18 (by decide) (fun c_66 => ?_) (fun c_66 => ?_)
    · refine lv_iconst (v := (0 : Int32)) hx hb dX10_excepts_99 (by decide) ?_
      exact w_ret (u := ((0 : Int32), u_65)) hx hb hr hlk rfl hS rfl hF.symm hP hD (Nat.le_of_ble_eq_true rfl) (Nat.le_of_ble_eq_true rfl) dX10_excepts_100
    · exact absurd c_66 (by decide)
theorem dX10_addException_0 : decode cX10_addException 0 = .ok (.aload_n 0, 1) := by decide +kernel
theorem dX10_addException_1 : decode cX10_addException 1 = .ok (.invokevirtual 56, 3) := by decide +kernel
theorem dX10_addException_4 : decode cX10_addException 4 = .ok (.aload_n 0, 1) := by decide +kernel
theorem dX10_addException_5 : decode cX10_addException 5 = .ok (.aload_n 0, 1) := by decide +kernel
theorem dX10_addException_6 : decode cX10_addException 6 = .ok (.iload_n 1, 1) := by decide +kernel
theorem dX10_addException_7 : decode cX10_addException 7 = .ok (.iload_n 2, 1) := by decide +kernel
theorem dX10_addException_8 : decode cX10_addException 8 = .ok (.iload_n 3, 1) := by decide +kernel
theorem dX10_addException_9 : decode cX10_addException 9 = .ok (.ifCond .eq 7, 3) := by decide +kernel
theorem dX10_addException_16 : decode cX10_addException 16 = .ok (.iconst 0, 1) := by decide +kernel
theorem dX10_addException_17 : decode cX10_addException 17 = .ok (.invokevirtual 92, 3) := by decide +kernel
theorem u_1784 : Cond.methodLink RX10 92 yX10_excepts ∈ UW := uw 1784 (by decide +kernel) rfl
theorem u_1786 : Cond.instanceMethod yX10_excepts ∈ UW := uw 1786 (by decide +kernel) rfl
theorem u_26 : Cond.selects RX10 yX10_excepts yX10_excepts ∈ UW := uw 26 (by decide +kernel) rfl
theorem u_1787 : Cond.code yX10_excepts cX10_excepts 6 (some .int) ∈ UW := uw 1787 (by decide +kernel) rfl
theorem g_X10_92 : GoodIn UW (wsV RX10 92 RX10 yX10_excepts (wsU yX10_excepts cX10_excepts 6 (some .int))) := gV u_1784 u_1786 u_26 u_77 u_1787
theorem hdv_X10_excepts : yX10_excepts.cls = RX10 ∧ yX10_excepts.cls ≠ "java/lang/invoke/MethodHandle" ∧ yX10_excepts.cls ≠ "java/lang/invoke/VarHandle" ∧ (parseMethodDescriptor yX10_excepts.desc).map (fun d => d.parameters.length) = some 3 := by decide +kernel
theorem dX10_addException_20 : decode cX10_addException 20 = .ok (.invokevirtual 71, 3) := by decide +kernel
theorem dX10_addException_23 : decode cX10_addException 23 = .ok (.ireturn, 1) := by decide +kernel
theorem dX10_addException_12 : decode cX10_addException 12 = .ok (.iconst 1, 1) := by decide +kernel
theorem dX10_addException_13 : decode cX10_addException 13 = .ok (.goto 4, 3) := by decide +kernel
def f_X10_addException (d : MoV) (dr : Int32) (dy : Int32) (op : Int32) : Int32 × MoV := (let u_3 : MoV := (f_X10_keeps d); (if op = (0 : Int32) then (let u_7 : Int32 × MoV := (f_X10_excepts u_3 dr dy (0 : Int32)); (let u_10 : Int32 × MoV := (f_X10_ends u_7.2 u_7.1); (u_10.1, u_10.2))) else (let u_13 : Int32 × MoV := (f_X10_excepts u_3 dr dy (1 : Int32)); (let u_16 : Int32 × MoV := (f_X10_ends u_13.2 u_13.1); (u_16.1, u_16.2)))))
def ok_X10_addException (d : MoV) (dr : Int32) (dy : Int32) (op : Int32) : Prop := (ok_X10_keeps d ∧ (let u_3 : MoV := (f_X10_keeps d); (if op = (0 : Int32) then (ok_X10_excepts u_3 dr dy (0 : Int32) ∧ (let u_7 : Int32 × MoV := (f_X10_excepts u_3 dr dy (0 : Int32)); (ok_X10_ends u_7.2 u_7.1 ∧ True))) else (ok_X10_excepts u_3 dr dy (1 : Int32) ∧ (let u_13 : Int32 × MoV := (f_X10_excepts u_3 dr dy (1 : Int32)); (ok_X10_ends u_13.2 u_13.1 ∧ True))))))
set_option maxHeartbeats 4000000 in
set_option maxRecDepth 100000 in
theorem c_X10_addException (l : Launch) (G : GG) (dh0 : Nat) (dh1 : Nat) (dh2 : Nat) (dh3 : Nat) (dh4 : Nat) (dh5 : Nat) (dh6 : Nat) (dh7 : Nat) (sz : Nat) (d : MoV) (dr : Int32) (dy : Int32) (op : Int32) (hok : ok_X10_addException d dr dy op) : wMet l yX10_addException cX10_addException 4 (some .int) 4 0 0 G (fl [wMo G dh0 dh1 dh2 dh3 dh4 dh5 dh6 dh7 d]) [.ref dh0, .int dr, .int dy, .int op] sz (fun u : Int32 × MoV => some (.int u.1)) (fun u : Int32 × MoV => u = f_X10_addException d dr dy op) (fun u : Int32 × MoV => fl [wMo G dh0 dh1 dh2 dh3 dh4 dh5 dh6 dh7 u.2]) := by
  refine w_start (by decide +kernel) (Nat.le_of_ble_eq_true rfl) ?_
  intro p e s m below meth c A hx hb hr hml hts hown hlk hin hP hD hA hK hST ls hl
  have hS : va_S A s.heap s.heap [] := va_S.rf
  have hown : s.vm.findClass RX10 = some m.cls := hown
  have hl : lv_has ls 4 [(0, .ref dh0), (1, .int dr), (2, .int dy), (3, .int op)] := hl
  have hF : f_X10_addException d dr dy op = (let u_3 : MoV := (f_X10_keeps d); (if op = (0 : Int32) then (let u_7 : Int32 × MoV := (f_X10_excepts u_3 dr dy (0 : Int32)); (let u_10 : Int32 × MoV := (f_X10_ends u_7.2 u_7.1); (u_10.1, u_10.2))) else (let u_13 : Int32 × MoV := (f_X10_excepts u_3 dr dy (1 : Int32)); (let u_16 : Int32 × MoV := (f_X10_ends u_13.2 u_13.1); (u_16.1, u_16.2))))) := rfl
  have hok : (ok_X10_keeps d ∧ (let u_3 : MoV := (f_X10_keeps d); (if op = (0 : Int32) then (ok_X10_excepts u_3 dr dy (0 : Int32) ∧ (let u_7 : Int32 × MoV := (f_X10_excepts u_3 dr dy (0 : Int32)); (ok_X10_ends u_7.2 u_7.1 ∧ True))) else (ok_X10_excepts u_3 dr dy (1 : Int32) ∧ (let u_13 : Int32 × MoV := (f_X10_excepts u_3 dr dy (1 : Int32)); (ok_X10_ends u_13.2 u_13.1 ∧ True)))))) := hok
  refine lv_aload_n hx hb dX10_addException_0 rfl (lv_at hl 0 rfl) ?_
  have k_1 := hok.1
  have hok := hok.2
  refine w_V (own := RX10) (cs := [wMo G dh0 dh1 dh2 dh3 dh4 dh5 dh6 dh7 d]) (rs := []) (As := []) (rest := []) (c_X10_keeps l G dh0 dh1 dh2 dh3 dh4 dh5 dh6 dh7 s.heap.size d k_1) ⟨hx, hb, hml, hown, hts⟩ g_X10_56 hdv_X10_keeps hK hST hS hP hD hA [0] [] rfl rfl rfl (k0 := 0) rfl rfl rfl ⟨Nat.le_of_ble_eq_true rfl, Nat.le_of_ble_eq_true rfl⟩ ⟨Nat.le_of_ble_eq_true rfl, Nat.le_of_ble_eq_true rfl⟩ rfl hl.1 rfl (Nat.le_of_ble_eq_true rfl) dX10_addException_1 (fun u_3 H locs huu hP hD hS => ?_)
  have eu_3 := huu
  have hP : va_P G.1 vwCl (fl [wMo G dh0 dh1 dh2 dh3 dh4 dh5 dh6 dh7 u_3]) H := hP
  have hD : va_D A (fl [wMo G dh0 dh1 dh2 dh3 dh4 dh5 dh6 dh7 u_3]) := hD
  refine W.eq (g2 := F0 m 4 ls []) rfl ?_
  have hF : f_X10_addException d dr dy op = (if op = (0 : Int32) then (let u_7 : Int32 × MoV := (f_X10_excepts u_3 dr dy (0 : Int32)); (let u_10 : Int32 × MoV := (f_X10_ends u_7.2 u_7.1); (u_10.1, u_10.2))) else (let u_13 : Int32 × MoV := (f_X10_excepts u_3 dr dy (1 : Int32)); (let u_16 : Int32 × MoV := (f_X10_ends u_13.2 u_13.1); (u_16.1, u_16.2)))) := by subst eu_3; exact hF
  have hok : (if op = (0 : Int32) then (ok_X10_excepts u_3 dr dy (0 : Int32) ∧ (let u_7 : Int32 × MoV := (f_X10_excepts u_3 dr dy (0 : Int32)); (ok_X10_ends u_7.2 u_7.1 ∧ True))) else (ok_X10_excepts u_3 dr dy (1 : Int32) ∧ (let u_13 : Int32 × MoV := (f_X10_excepts u_3 dr dy (1 : Int32)); (ok_X10_ends u_13.2 u_13.1 ∧ True)))) := by subst eu_3; exact hok
  refine lv_aload_n hx hb dX10_addException_4 rfl (lv_at hl 0 rfl) ?_
  refine lv_aload_n hx hb dX10_addException_5 rfl (lv_at hl 0 rfl) ?_
  refine lv_iload_n hx hb dX10_addException_6 rfl (lv_at hl 1 rfl) ?_
  refine lv_iload_n hx hb dX10_addException_7 rfl (lv_at hl 2 rfl) ?_
  refine lv_iload_n hx hb dX10_addException_8 rfl (lv_at hl 3 rfl) ?_
  refine lv_if_eq (tgt := 16) hx hb dX10_addException_9 (by decide) (fun c_4 => ?_) (fun c_4 => ?_)
  · have hF := hF.trans (if_pos c_4)
    have hok := Eq.mp (if_pos c_4) hok
    refine lv_iconst (v := (0 : Int32)) hx hb dX10_addException_16 (by decide) ?_
    have k_5 := hok.1
    have hok := hok.2
    refine w_V (own := RX10) (cs := [wMo G dh0 dh1 dh2 dh3 dh4 dh5 dh6 dh7 u_3]) (rs := []) (As := [.int dr, .int dy, .int (0 : Int32)]) (rest := [.ref dh0]) (c_X10_excepts l G dh0 dh1 dh2 dh3 dh4 dh5 dh6 dh7 H.size u_3 dr dy (0 : Int32) k_5) ⟨hx, hb, hml, hown, hts⟩ g_X10_92 hdv_X10_excepts hK hST hS hP hD hA [0] [] rfl rfl rfl (k0 := 0) rfl rfl rfl ⟨Nat.le_of_ble_eq_true rfl, Nat.le_of_ble_eq_true rfl⟩ ⟨Nat.le_of_ble_eq_true rfl, Nat.le_of_ble_eq_true rfl⟩ rfl hl.1 rfl (Nat.le_of_ble_eq_true rfl) dX10_addException_17 (fun u_7 H locs huu hP hD hS => ?_)
    have eu_7 := huu
    have hP : va_P G.1 vwCl (fl [wMo G dh0 dh1 dh2 dh3 dh4 dh5 dh6 dh7 u_7.2]) H := hP
    have hD : va_D A (fl [wMo G dh0 dh1 dh2 dh3 dh4 dh5 dh6 dh7 u_7.2]) := hD
    refine W.eq (g2 := F0 m 20 ls [.int u_7.1, .ref dh0]) rfl ?_
    have hF : f_X10_addException d dr dy op = (let u_10 : Int32 × MoV := (f_X10_ends u_7.2 u_7.1); (u_10.1, u_10.2)) := by subst eu_7; exact hF
    have hok : (ok_X10_ends u_7.2 u_7.1 ∧ True) := by subst eu_7; exact hok
    have k_8 := hok.1
    have hok := hok.2
    refine w_V (own := RX10) (cs := [wMo G dh0 dh1 dh2 dh3 dh4 dh5 dh6 dh7 u_7.2]) (rs := []) (As := [.int u_7.1]) (rest := []) (c_X10_ends l G dh0 dh1 dh2 dh3 dh4 dh5 dh6 dh7 H.size u_7.2 u_7.1 k_8) ⟨hx, hb, hml, hown, hts⟩ g_X10_71 hdv_X10_ends hK hST hS hP hD hA [0] [] rfl rfl rfl (k0 := 0) rfl rfl rfl ⟨Nat.le_of_ble_eq_true rfl, Nat.le_of_ble_eq_true rfl⟩ ⟨Nat.le_of_ble_eq_true rfl, Nat.le_of_ble_eq_true rfl⟩ rfl hl.1 rfl (Nat.le_of_ble_eq_true rfl) dX10_addException_20 (fun u_10 H locs huu hP hD hS => ?_)
    have eu_10 := huu
    have hP : va_P G.1 vwCl (fl [wMo G dh0 dh1 dh2 dh3 dh4 dh5 dh6 dh7 u_10.2]) H := hP
    have hD : va_D A (fl [wMo G dh0 dh1 dh2 dh3 dh4 dh5 dh6 dh7 u_10.2]) := hD
    refine W.eq (g2 := F0 m 23 ls [.int u_10.1]) rfl ?_
    have hF : f_X10_addException d dr dy op = (u_10.1, u_10.2) := by subst eu_10; exact hF
    exact w_ret (u := (u_10.1, u_10.2)) hx hb hr hlk rfl hS rfl hF.symm hP hD (Nat.le_of_ble_eq_true rfl) (Nat.le_of_ble_eq_true rfl) dX10_addException_23
  · have hF := hF.trans (if_neg c_4)
    have hok := Eq.mp (if_neg c_4) hok
    refine lv_iconst (v := (1 : Int32)) hx hb dX10_addException_12 (by decide) ?_
    refine lv_goto (tgt := 17) hx hb dX10_addException_13 (by decide) ?_
    have k_11 := hok.1
    have hok := hok.2
    refine w_V (own := RX10) (cs := [wMo G dh0 dh1 dh2 dh3 dh4 dh5 dh6 dh7 u_3]) (rs := []) (As := [.int dr, .int dy, .int (1 : Int32)]) (rest := [.ref dh0]) (c_X10_excepts l G dh0 dh1 dh2 dh3 dh4 dh5 dh6 dh7 H.size u_3 dr dy (1 : Int32) k_11) ⟨hx, hb, hml, hown, hts⟩ g_X10_92 hdv_X10_excepts hK hST hS hP hD hA [0] [] rfl rfl rfl (k0 := 0) rfl rfl rfl ⟨Nat.le_of_ble_eq_true rfl, Nat.le_of_ble_eq_true rfl⟩ ⟨Nat.le_of_ble_eq_true rfl, Nat.le_of_ble_eq_true rfl⟩ rfl hl.1 rfl (Nat.le_of_ble_eq_true rfl) dX10_addException_17 (fun u_13 H locs huu hP hD hS => ?_)
    have eu_13 := huu
    have hP : va_P G.1 vwCl (fl [wMo G dh0 dh1 dh2 dh3 dh4 dh5 dh6 dh7 u_13.2]) H := hP
    have hD : va_D A (fl [wMo G dh0 dh1 dh2 dh3 dh4 dh5 dh6 dh7 u_13.2]) := hD
    refine W.eq (g2 := F0 m 20 ls [.int u_13.1, .ref dh0]) rfl ?_
    have hF : f_X10_addException d dr dy op = (let u_16 : Int32 × MoV := (f_X10_ends u_13.2 u_13.1); (u_16.1, u_16.2)) := by subst eu_13; exact hF
    have hok : (ok_X10_ends u_13.2 u_13.1 ∧ True) := by subst eu_13; exact hok
    have k_14 := hok.1
    have hok := hok.2
    refine w_V (own := RX10) (cs := [wMo G dh0 dh1 dh2 dh3 dh4 dh5 dh6 dh7 u_13.2]) (rs := []) (As := [.int u_13.1]) (rest := []) (c_X10_ends l G dh0 dh1 dh2 dh3 dh4 dh5 dh6 dh7 H.size u_13.2 u_13.1 k_14) ⟨hx, hb, hml, hown, hts⟩ g_X10_71 hdv_X10_ends hK hST hS hP hD hA [0] [] rfl rfl rfl (k0 := 0) rfl rfl rfl ⟨Nat.le_of_ble_eq_true rfl, Nat.le_of_ble_eq_true rfl⟩ ⟨Nat.le_of_ble_eq_true rfl, Nat.le_of_ble_eq_true rfl⟩ rfl hl.1 rfl (Nat.le_of_ble_eq_true rfl) dX10_addException_20 (fun u_16 H locs huu hP hD hS => ?_)
    have eu_16 := huu
    have hP : va_P G.1 vwCl (fl [wMo G dh0 dh1 dh2 dh3 dh4 dh5 dh6 dh7 u_16.2]) H := hP
    have hD : va_D A (fl [wMo G dh0 dh1 dh2 dh3 dh4 dh5 dh6 dh7 u_16.2]) := hD
    refine W.eq (g2 := F0 m 23 ls [.int u_16.1]) rfl ?_
    have hF : f_X10_addException d dr dy op = (u_16.1, u_16.2) := by subst eu_16; exact hF
    exact w_ret (u := (u_16.1, u_16.2)) hx hb hr hlk rfl hS rfl hF.symm hP hD (Nat.le_of_ble_eq_true rfl) (Nat.le_of_ble_eq_true rfl) dX10_addException_23
theorem dX10_lifts_0 : decode cX10_lifts 0 = .ok (.aload_n 0, 1) := by decide +kernel
theorem dX10_lifts_1 : decode cX10_lifts 1 = .ok (.aload_n 0, 1) := by decide +kernel
theorem dX10_lifts_2 : decode cX10_lifts 2 = .ok (.iload_n 1, 1) := by decide +kernel
theorem dX10_lifts_3 : decode cX10_lifts 3 = .ok (.invokevirtual 75, 3) := by decide +kernel
theorem dX10_lifts_6 : decode cX10_lifts 6 = .ok (.ifCond .ne 7, 3) := by decide +kernel
theorem dX10_lifts_13 : decode cX10_lifts 13 = .ok (.iconst 0, 1) := by decide +kernel
theorem dX10_lifts_14 : decode cX10_lifts 14 = .ok (.iconst 1, 1) := by decide +kernel
theorem dX10_lifts_15 : decode cX10_lifts 15 = .ok (.invokevirtual 63, 3) := by decide +kernel
theorem dX10_lifts_18 : decode cX10_lifts 18 = .ok (.ifCond .eq 5, 3) := by decide +kernel
theorem dX10_lifts_23 : decode cX10_lifts 23 = .ok (.aload_n 0, 1) := by decide +kernel
theorem dX10_lifts_24 : decode cX10_lifts 24 = .ok (.iload_n 1, 1) := by decide +kernel
theorem dX10_lifts_25 : decode cX10_lifts 25 = .ok (.iload_n 2, 1) := by decide +kernel
theorem dX10_lifts_26 : decode cX10_lifts 26 = .ok (.invokevirtual 89, 3) := by decide +kernel
theorem dX10_lifts_29 : decode cX10_lifts 29 = .ok (.istore_n 3, 1) := by decide +kernel
theorem dX10_lifts_30 : decode cX10_lifts 30 = .ok (.aload_n 0, 1) := by decide +kernel
theorem dX10_lifts_31 : decode cX10_lifts 31 = .ok (.iload_n 3, 1) := by decide +kernel
theorem dX10_lifts_32 : decode cX10_lifts 32 = .ok (.ifCond .ge 7, 3) := by decide +kernel
theorem dX10_lifts_39 : decode cX10_lifts 39 = .ok (.iconst 0, 1) := by decide +kernel
theorem dX10_lifts_40 : decode cX10_lifts 40 = .ok (.iconst 2, 1) := by decide +kernel
theorem dX10_lifts_41 : decode cX10_lifts 41 = .ok (.invokevirtual 63, 3) := by decide +kernel
theorem dX10_lifts_44 : decode cX10_lifts 44 = .ok (.ifCond .eq 5, 3) := by decide +kernel
theorem dX10_lifts_49 : decode cX10_lifts 49 = .ok (.aload_n 0, 1) := by decide +kernel
theorem dX10_lifts_50 : decode cX10_lifts 50 = .ok (.iload_n 3, 1) := by decide +kernel
theorem dX10_lifts_51 : decode cX10_lifts 51 = .ok (.iconst 2, 1) := by decide +kernel
theorem dX10_lifts_52 : decode cX10_lifts 52 = .ok (.invokevirtual 82, 3) := by decide +kernel
theorem dX10_lifts_55 : decode cX10_lifts 55 = .ok (.istore 4, 2) := by decide +kernel
theorem dX10_lifts_57 : decode cX10_lifts 57 = .ok (.bipush 55, 2) := by decide +kernel
theorem dX10_lifts_59 : decode cX10_lifts 59 = .ok (.iconst 3, 1) := by decide +kernel
theorem dX10_lifts_60 : decode cX10_lifts 60 = .ok (.iload_n 3, 1) := by decide +kernel
theorem dX10_lifts_61 : decode cX10_lifts 61 = .ok (.imul, 1) := by decide +kernel
theorem dX10_lifts_62 : decode cX10_lifts 62 = .ok (.iadd, 1) := by decide +kernel
theorem dX10_lifts_63 : decode cX10_lifts 63 = .ok (.istore 5, 2) := by decide +kernel
theorem dX10_lifts_65 : decode cX10_lifts 65 = .ok (.iload 5, 2) := by decide +kernel
theorem dX10_lifts_67 : decode cX10_lifts 67 = .ok (.bipush 55, 2) := by decide +kernel
theorem dX10_lifts_69 : decode cX10_lifts 69 = .ok (.iconst 3, 1) := by decide +kernel
theorem dX10_lifts_70 : decode cX10_lifts 70 = .ok (.aload_n 0, 1) := by decide +kernel
theorem dX10_lifts_71 : decode cX10_lifts 71 = .ok (.getfield 9, 3) := by decide +kernel
theorem dX10_lifts_74 : decode cX10_lifts 74 = .ok (.iconst 4, 1) := by decide +kernel
theorem dX10_lifts_75 : decode cX10_lifts 75 = .ok (.iaload, 1) := by decide +kernel
theorem dX10_lifts_76 : decode cX10_lifts 76 = .ok (.iconst 1, 1) := by decide +kernel
theorem dX10_lifts_77 : decode cX10_lifts 77 = .ok (.isub, 1) := by decide +kernel
theorem dX10_lifts_78 : decode cX10_lifts 78 = .ok (.imul, 1) := by decide +kernel
theorem dX10_lifts_79 : decode cX10_lifts 79 = .ok (.iadd, 1) := by decide +kernel
theorem dX10_lifts_80 : decode cX10_lifts 80 = .ok (.if_icmp .ge 25, 3) := by decide +kernel
theorem dX10_lifts_105 : decode cX10_lifts 105 = .ok (.aload_n 0, 1) := by decide +kernel
theorem dX10_lifts_106 : decode cX10_lifts 106 = .ok (.getfield 9, 3) := by decide +kernel
theorem dX10_lifts_109 : decode cX10_lifts 109 = .ok (.iconst 4, 1) := by decide +kernel
theorem dX10_lifts_110 : decode cX10_lifts 110 = .ok (.dup2, 1) := by decide +kernel
theorem dX10_lifts_111 : decode cX10_lifts 111 = .ok (.iaload, 1) := by decide +kernel
theorem dX10_lifts_112 : decode cX10_lifts 112 = .ok (.iconst 1, 1) := by decide +kernel
theorem dX10_lifts_113 : decode cX10_lifts 113 = .ok (.isub, 1) := by decide +kernel
theorem dX10_lifts_114 : decode cX10_lifts 114 = .ok (.iastore, 1) := by decide +kernel
theorem dX10_lifts_115 : decode cX10_lifts 115 = .ok (.iconst 0, 1) := by decide +kernel
theorem dX10_lifts_116 : decode cX10_lifts 116 = .ok (.istore 5, 2) := by decide +kernel
theorem dX10_lifts_118 : decode cX10_lifts 118 = .ok (.iload 5, 2) := by decide +kernel
theorem dX10_lifts_120 : decode cX10_lifts 120 = .ok (.iconst 3, 1) := by decide +kernel
theorem dX10_lifts_121 : decode cX10_lifts 121 = .ok (.if_icmp .ge 29, 3) := by decide +kernel
theorem dX10_lifts_124 : decode cX10_lifts 124 = .ok (.aload_n 0, 1) := by decide +kernel
theorem dX10_lifts_125 : decode cX10_lifts 125 = .ok (.getfield 9, 3) := by decide +kernel
theorem dX10_lifts_128 : decode cX10_lifts 128 = .ok (.bipush 55, 2) := by decide +kernel
theorem dX10_lifts_130 : decode cX10_lifts 130 = .ok (.iconst 3, 1) := by decide +kernel
theorem dX10_lifts_131 : decode cX10_lifts 131 = .ok (.aload_n 0, 1) := by decide +kernel
theorem dX10_lifts_132 : decode cX10_lifts 132 = .ok (.getfield 9, 3) := by decide +kernel
theorem dX10_lifts_135 : decode cX10_lifts 135 = .ok (.iconst 4, 1) := by decide +kernel
theorem dX10_lifts_136 : decode cX10_lifts 136 = .ok (.iaload, 1) := by decide +kernel
theorem dX10_lifts_137 : decode cX10_lifts 137 = .ok (.imul, 1) := by decide +kernel
theorem dX10_lifts_138 : decode cX10_lifts 138 = .ok (.iadd, 1) := by decide +kernel
theorem dX10_lifts_139 : decode cX10_lifts 139 = .ok (.iload 5, 2) := by decide +kernel
theorem dX10_lifts_141 : decode cX10_lifts 141 = .ok (.iadd, 1) := by decide +kernel
theorem dX10_lifts_142 : decode cX10_lifts 142 = .ok (.iconst 0, 1) := by decide +kernel
theorem dX10_lifts_143 : decode cX10_lifts 143 = .ok (.iastore, 1) := by decide +kernel
theorem dX10_lifts_144 : decode cX10_lifts 144 = .ok (.iinc 5 1, 3) := by decide +kernel
theorem dX10_lifts_147 : decode cX10_lifts 147 = .ok (.goto (-29), 3) := by decide +kernel
theorem dX10_lifts_150 : decode cX10_lifts 150 = .ok (.iload 4, 2) := by decide +kernel
theorem dX10_lifts_152 : decode cX10_lifts 152 = .ok (.ireturn, 1) := by decide +kernel
theorem dX10_lifts_83 : decode cX10_lifts 83 = .ok (.aload_n 0, 1) := by decide +kernel
theorem dX10_lifts_84 : decode cX10_lifts 84 = .ok (.getfield 9, 3) := by decide +kernel
theorem dX10_lifts_87 : decode cX10_lifts 87 = .ok (.iload 5, 2) := by decide +kernel
theorem dX10_lifts_89 : decode cX10_lifts 89 = .ok (.aload_n 0, 1) := by decide +kernel
theorem dX10_lifts_90 : decode cX10_lifts 90 = .ok (.getfield 9, 3) := by decide +kernel
theorem dX10_lifts_93 : decode cX10_lifts 93 = .ok (.iload 5, 2) := by decide +kernel
theorem dX10_lifts_95 : decode cX10_lifts 95 = .ok (.iconst 3, 1) := by decide +kernel
theorem dX10_lifts_96 : decode cX10_lifts 96 = .ok (.iadd, 1) := by decide +kernel
theorem dX10_lifts_97 : decode cX10_lifts 97 = .ok (.iaload, 1) := by decide +kernel
theorem dX10_lifts_98 : decode cX10_lifts 98 = .ok (.iastore, 1) := by decide +kernel
theorem dX10_lifts_99 : decode cX10_lifts 99 = .ok (.iinc 5 1, 3) := by decide +kernel
theorem dX10_lifts_102 : decode cX10_lifts 102 = .ok (.goto (-37), 3) := by decide +kernel
theorem dX10_lifts_35 : decode cX10_lifts 35 = .ok (.iconst 1, 1) := by decide +kernel
theorem dX10_lifts_36 : decode cX10_lifts 36 = .ok (.goto 4, 3) := by decide +kernel
theorem dX10_lifts_47 : decode cX10_lifts 47 = .ok (.iconst 0, 1) := by decide +kernel
theorem dX10_lifts_48 : decode cX10_lifts 48 = .ok (.ireturn, 1) := by decide +kernel
theorem dX10_lifts_9 : decode cX10_lifts 9 = .ok (.iconst 1, 1) := by decide +kernel
theorem dX10_lifts_10 : decode cX10_lifts 10 = .ok (.goto 4, 3) := by decide +kernel
theorem dX10_lifts_21 : decode cX10_lifts 21 = .ok (.iconst 0, 1) := by decide +kernel
theorem dX10_lifts_22 : decode cX10_lifts 22 = .ok (.ireturn, 1) := by decide +kernel
def lp_X10_lifts_118 (d : MoV) (dr : Int32) (dy : Int32) (u_4 : MoV) (u_10 : MoV) (y_14 : Int32) (y_15 : Int32) (x5 : Int32) (dL : MoV) : Nat → Int32 → MoV → Int32 × MoV
  | 0, x5', dL' => (x5', dL')
  | n + 1, x5', dL' => (if (3 : Int32) ≤ x5' then (x5', dL') else (lp_X10_lifts_118 d dr dy u_4 u_10 y_14 y_15 x5 dL n (x5' + 1) (mo0 dL' (upd dL'.1 (((55 : Int32) + ((3 : Int32) * (dL'.1 (4 : Int32).toNatClampNeg))) + x5').toNatClampNeg (0 : Int32)))))
def okl_lp_X10_lifts_118 (d : MoV) (dr : Int32) (dy : Int32) (u_4 : MoV) (u_10 : MoV) (y_14 : Int32) (y_15 : Int32) (x5 : Int32) (dL : MoV) : Nat → Int32 → MoV → Prop
  | 0, _, _ => True
  | n + 1, x5', dL' => (if (3 : Int32) ≤ x5' then True else (vp_in (((55 : Int32) + ((3 : Int32) * (dL'.1 (4 : Int32).toNatClampNeg))) + x5') 249 ∧ (okl_lp_X10_lifts_118 d dr dy u_4 u_10 y_14 y_15 x5 dL n (x5' + 1) (mo0 dL' (upd dL'.1 (((55 : Int32) + ((3 : Int32) * (dL'.1 (4 : Int32).toNatClampNeg))) + x5').toNatClampNeg (0 : Int32))))))
def lp_X10_lifts_65 (d : MoV) (dr : Int32) (dy : Int32) (u_4 : MoV) (u_10 : MoV) (y_14 : Int32) (y_15 : Int32) : Nat → Int32 → MoV → Int32 × MoV
  | 0, _, _ => (0, d)
  | n + 1, x5, dL => (if ((55 : Int32) + ((3 : Int32) * ((dL.1 (4 : Int32).toNatClampNeg) - (1 : Int32)))) ≤ x5 then (let r_19 : Int32 × MoV := (lp_X10_lifts_118 d dr dy u_4 u_10 y_14 y_15 x5 dL ((((3 : Int32)).toInt - ((0 : Int32)).toInt).toNat + 1) (0 : Int32) (mo0 dL (upd dL.1 (4 : Int32).toNatClampNeg ((dL.1 (4 : Int32).toNatClampNeg) - (1 : Int32))))); (y_14, r_19.2)) else (lp_X10_lifts_65 d dr dy u_4 u_10 y_14 y_15 n (x5 + 1) (mo0 dL (upd dL.1 x5.toNatClampNeg (dL.1 (x5 + (3 : Int32)).toNatClampNeg)))))
def okl_lp_X10_lifts_65 (d : MoV) (dr : Int32) (dy : Int32) (u_4 : MoV) (u_10 : MoV) (y_14 : Int32) (y_15 : Int32) : Nat → Int32 → MoV → Prop
  | 0, _, _ => False
  | n + 1, x5, dL => (if ((55 : Int32) + ((3 : Int32) * ((dL.1 (4 : Int32).toNatClampNeg) - (1 : Int32)))) ≤ x5 then (okl_lp_X10_lifts_118 d dr dy u_4 u_10 y_14 y_15 x5 dL ((((3 : Int32)).toInt - ((0 : Int32)).toInt).toNat + 1) (0 : Int32) (mo0 dL (upd dL.1 (4 : Int32).toNatClampNeg ((dL.1 (4 : Int32).toNatClampNeg) - (1 : Int32)))) ∧ True) else (vp_in (x5 + (3 : Int32)) 249 ∧ (vp_in x5 249 ∧ (okl_lp_X10_lifts_65 d dr dy u_4 u_10 y_14 y_15 n (x5 + 1) (mo0 dL (upd dL.1 x5.toNatClampNeg (dL.1 (x5 + (3 : Int32)).toNatClampNeg)))))))
def f_X10_lifts (d : MoV) (dr : Int32) (dy : Int32) : Int32 × MoV := (if (f_X10_isDoor d dr) = (0 : Int32) then (let u_26 : MoV := (f_X10_isThrown d (1 : Int32) (1 : Int32)); ((0 : Int32), u_26)) else (let u_4 : MoV := (f_X10_isThrown d (0 : Int32) (1 : Int32)); (if (0 : Int32) ≤ (f_X10_place u_4 dr dy) then (let u_10 : MoV := (f_X10_isThrown u_4 (0 : Int32) (2 : Int32)); (let y_14 : Int32 := (f_X10_ofException u_10 (f_X10_place u_4 dr dy) (2 : Int32)); (let y_15 : Int32 := ((55 : Int32) + ((3 : Int32) * (f_X10_place u_4 dr dy))); (lp_X10_lifts_65 d dr dy u_4 u_10 y_14 y_15 60 y_15 u_10)))) else (let u_23 : MoV := (f_X10_isThrown u_4 (1 : Int32) (2 : Int32)); ((0 : Int32), u_23)))))
def ok_X10_lifts (d : MoV) (dr : Int32) (dy : Int32) : Prop := (if (f_X10_isDoor d dr) = (0 : Int32) then True else (let u_4 : MoV := (f_X10_isThrown d (0 : Int32) (1 : Int32)); (ok_X10_place u_4 dr dy ∧ (if (0 : Int32) ≤ (f_X10_place u_4 dr dy) then (let u_10 : MoV := (f_X10_isThrown u_4 (0 : Int32) (2 : Int32)); (ok_X10_ofException u_10 (f_X10_place u_4 dr dy) (2 : Int32) ∧ (let y_14 : Int32 := (f_X10_ofException u_10 (f_X10_place u_4 dr dy) (2 : Int32)); (let y_15 : Int32 := ((55 : Int32) + ((3 : Int32) * (f_X10_place u_4 dr dy))); (okl_lp_X10_lifts_65 d dr dy u_4 u_10 y_14 y_15 60 y_15 u_10))))) else True))))
set_option maxHeartbeats 4000000 in
set_option maxRecDepth 100000 in
theorem c_X10_lifts (l : Launch) (G : GG) (dh0 : Nat) (dh1 : Nat) (dh2 : Nat) (dh3 : Nat) (dh4 : Nat) (dh5 : Nat) (dh6 : Nat) (dh7 : Nat) (sz : Nat) (d : MoV) (dr : Int32) (dy : Int32) (hok : ok_X10_lifts d dr dy) : wMet l yX10_lifts cX10_lifts 6 (some .int) 3 0 0 G (fl [wMo G dh0 dh1 dh2 dh3 dh4 dh5 dh6 dh7 d]) [.ref dh0, .int dr, .int dy] sz (fun u : Int32 × MoV => some (.int u.1)) (fun u : Int32 × MoV => u = f_X10_lifts d dr dy) (fun u : Int32 × MoV => fl [wMo G dh0 dh1 dh2 dh3 dh4 dh5 dh6 dh7 u.2]) := by
  refine w_start (by decide +kernel) (Nat.le_of_ble_eq_true rfl) ?_
  intro p e s m below meth c A hx hb hr hml hts hown hlk hin hP hD hA hK hST ls hl
  have hS : va_S A s.heap s.heap [] := va_S.rf
  have hown : s.vm.findClass RX10 = some m.cls := hown
  have hl : lv_has ls 6 [(0, .ref dh0), (1, .int dr), (2, .int dy)] := hl
  have hF : f_X10_lifts d dr dy = (if (f_X10_isDoor d dr) = (0 : Int32) then (let u_26 : MoV := (f_X10_isThrown d (1 : Int32) (1 : Int32)); ((0 : Int32), u_26)) else (let u_4 : MoV := (f_X10_isThrown d (0 : Int32) (1 : Int32)); (if (0 : Int32) ≤ (f_X10_place u_4 dr dy) then (let u_10 : MoV := (f_X10_isThrown u_4 (0 : Int32) (2 : Int32)); (let y_14 : Int32 := (f_X10_ofException u_10 (f_X10_place u_4 dr dy) (2 : Int32)); (let y_15 : Int32 := ((55 : Int32) + ((3 : Int32) * (f_X10_place u_4 dr dy))); (lp_X10_lifts_65 d dr dy u_4 u_10 y_14 y_15 60 y_15 u_10)))) else (let u_23 : MoV := (f_X10_isThrown u_4 (1 : Int32) (2 : Int32)); ((0 : Int32), u_23))))) := rfl
  have hok : (if (f_X10_isDoor d dr) = (0 : Int32) then True else (let u_4 : MoV := (f_X10_isThrown d (0 : Int32) (1 : Int32)); (ok_X10_place u_4 dr dy ∧ (if (0 : Int32) ≤ (f_X10_place u_4 dr dy) then (let u_10 : MoV := (f_X10_isThrown u_4 (0 : Int32) (2 : Int32)); (ok_X10_ofException u_10 (f_X10_place u_4 dr dy) (2 : Int32) ∧ (let y_14 : Int32 := (f_X10_ofException u_10 (f_X10_place u_4 dr dy) (2 : Int32)); (let y_15 : Int32 := ((55 : Int32) + ((3 : Int32) * (f_X10_place u_4 dr dy))); (okl_lp_X10_lifts_65 d dr dy u_4 u_10 y_14 y_15 60 y_15 u_10))))) else True)))) := hok
  refine lv_aload_n hx hb dX10_lifts_0 rfl (lv_at hl 0 rfl) ?_
  refine lv_aload_n hx hb dX10_lifts_1 rfl (lv_at hl 0 rfl) ?_
  refine lv_iload_n hx hb dX10_lifts_2 rfl (lv_at hl 1 rfl) ?_
  refine r_V (own := RX10) (v := (some (.int (f_X10_isDoor d dr)))) (st1 := [.int (f_X10_isDoor d dr), .ref dh0]) (As := [.int dr]) (rest := [.ref dh0]) (c_X10_isDoor l G dh0 dh1 dh2 dh3 dh4 dh5 dh6 dh7 d dr) ⟨hx, hb, hml, hown, hts⟩ g_X10_75 hdv_X10_isDoor hK hST hS hP [0, 1, 2, 3, 4, 5, 6, 7] rfl (k0 := 0) rfl rfl rfl ⟨Nat.le_of_ble_eq_true rfl, Nat.le_of_ble_eq_true rfl⟩ ⟨Nat.le_of_ble_eq_true rfl, Nat.le_of_ble_eq_true rfl⟩ rfl hl.1 rfl (Nat.le_of_ble_eq_true rfl) dX10_lifts_3 rfl (fun b_1 => ?_)
  refine lv_if_ne (tgt := 13) hx hb dX10_lifts_6 (by decide) (fun c_2 => ?_) (fun c_2 => ?_)
  · have hF := hF.trans (if_neg c_2)
    have hok := Eq.mp (if_neg c_2) hok
    refine lv_iconst (v := (0 : Int32)) hx hb dX10_lifts_13 (by decide) ?_
    refine lv_iconst (v := (1 : Int32)) hx hb dX10_lifts_14 (by decide) ?_
    refine w_V (own := RX10) (cs := [wMo G dh0 dh1 dh2 dh3 dh4 dh5 dh6 dh7 d]) (rs := []) (As := [.int (0 : Int32), .int (1 : Int32)]) (rest := []) (c_X10_isThrown l G dh0 dh1 dh2 dh3 dh4 dh5 dh6 dh7 s.heap.size d (0 : Int32) (1 : Int32) (rfl)) ⟨hx, hb, hml, hown, hts⟩ g_X10_63 hdv_X10_isThrown hK hST hS hP hD hA [0] [] rfl rfl rfl (k0 := 0) rfl rfl rfl ⟨Nat.le_of_ble_eq_true rfl, Nat.le_of_ble_eq_true rfl⟩ ⟨Nat.le_of_ble_eq_true rfl, Nat.le_of_ble_eq_true rfl⟩ rfl hl.1 rfl (Nat.le_of_ble_eq_true rfl) dX10_lifts_15 (fun u_4 H locs huu hP hD hS => ?_)
    have eu_4 := huu
    have hP : va_P G.1 vwCl (fl [wMo G dh0 dh1 dh2 dh3 dh4 dh5 dh6 dh7 u_4]) H := hP
    have hD : va_D A (fl [wMo G dh0 dh1 dh2 dh3 dh4 dh5 dh6 dh7 u_4]) := hD
    refine W.eq (g2 := F0 m 18 ls [.int (0 : Int32)]) rfl ?_
    have hF : f_X10_lifts d dr dy = (if (0 : Int32) ≤ (f_X10_place u_4 dr dy) then (let u_10 : MoV := (f_X10_isThrown u_4 (0 : Int32) (2 : Int32)); (let y_14 : Int32 := (f_X10_ofException u_10 (f_X10_place u_4 dr dy) (2 : Int32)); (let y_15 : Int32 := ((55 : Int32) + ((3 : Int32) * (f_X10_place u_4 dr dy))); (lp_X10_lifts_65 d dr dy u_4 u_10 y_14 y_15 60 y_15 u_10)))) else (let u_23 : MoV := (f_X10_isThrown u_4 (1 : Int32) (2 : Int32)); ((0 : Int32), u_23))) := by subst eu_4; exact hF
    have hok : (ok_X10_place u_4 dr dy ∧ (if (0 : Int32) ≤ (f_X10_place u_4 dr dy) then (let u_10 : MoV := (f_X10_isThrown u_4 (0 : Int32) (2 : Int32)); (ok_X10_ofException u_10 (f_X10_place u_4 dr dy) (2 : Int32) ∧ (let y_14 : Int32 := (f_X10_ofException u_10 (f_X10_place u_4 dr dy) (2 : Int32)); (let y_15 : Int32 := ((55 : Int32) + ((3 : Int32) * (f_X10_place u_4 dr dy))); (okl_lp_X10_lifts_65 d dr dy u_4 u_10 y_14 y_15 60 y_15 u_10))))) else True)) := by subst eu_4; exact hok
    refine lv_if_eq (tgt := 23) hx hb dX10_lifts_18 (by decide) (fun c_5 => ?_) (fun c_5 => ?_)
    · refine lv_aload_n hx hb dX10_lifts_23 rfl (lv_at hl 0 rfl) ?_
      refine lv_iload_n hx hb dX10_lifts_24 rfl (lv_at hl 1 rfl) ?_
      refine lv_iload_n hx hb dX10_lifts_25 rfl (lv_at hl 2 rfl) ?_
      have k_6 := hok.1
      have hok := hok.2
      refine r_V (own := RX10) (v := (some (.int (f_X10_place u_4 dr dy)))) (st1 := [.int (f_X10_place u_4 dr dy)]) (As := [.int dr, .int dy]) (rest := []) (c_X10_place l G dh0 dh1 dh2 dh3 dh4 dh5 dh6 dh7 u_4 dr dy k_6) ⟨hx, hb, hml, hown, hts⟩ g_X10_89 hdv_X10_place hK hST hS hP [0, 1, 2, 3, 4, 5, 6, 7] rfl (k0 := 0) rfl rfl rfl ⟨Nat.le_of_ble_eq_true rfl, Nat.le_of_ble_eq_true rfl⟩ ⟨Nat.le_of_ble_eq_true rfl, Nat.le_of_ble_eq_true rfl⟩ rfl hl.1 rfl (Nat.le_of_ble_eq_true rfl) dX10_lifts_26 rfl (fun b_7 => ?_)
      refine lv_istore_n (lv' := [(3, .int (f_X10_place u_4 dr dy)), (0, .ref dh0), (1, .int dr), (2, .int dy)]) hx hb dX10_lifts_29 rfl hl (by decide) rfl (fun ls hl => ?_)
      refine lv_aload_n hx hb dX10_lifts_30 rfl (lv_at hl 1 rfl) ?_
      refine lv_iload_n hx hb dX10_lifts_31 rfl (lv_at hl 0 rfl) ?_
      refine lv_if_ge (tgt := 39) hx hb dX10_lifts_32 (by decide) (fun c_8 => ?_) (fun c_8 => ?_)
      · have hF := hF.trans (if_pos c_8)
        have hok := Eq.mp (if_pos c_8) hok
        refine lv_iconst (v := (0 : Int32)) hx hb dX10_lifts_39 (by decide) ?_
        refine lv_iconst (v := (2 : Int32)) hx hb dX10_lifts_40 (by decide) ?_
        refine w_V (own := RX10) (cs := [wMo G dh0 dh1 dh2 dh3 dh4 dh5 dh6 dh7 u_4]) (rs := []) (As := [.int (0 : Int32), .int (2 : Int32)]) (rest := []) (c_X10_isThrown l G dh0 dh1 dh2 dh3 dh4 dh5 dh6 dh7 H.size u_4 (0 : Int32) (2 : Int32) (rfl)) ⟨hx, hb, hml, hown, hts⟩ g_X10_63 hdv_X10_isThrown hK hST hS hP hD hA [0] [] rfl rfl rfl (k0 := 0) rfl rfl rfl ⟨Nat.le_of_ble_eq_true rfl, Nat.le_of_ble_eq_true rfl⟩ ⟨Nat.le_of_ble_eq_true rfl, Nat.le_of_ble_eq_true rfl⟩ rfl hl.1 rfl (Nat.le_of_ble_eq_true rfl) dX10_lifts_41 (fun u_10 H locs huu hP hD hS => ?_)
        have eu_10 := huu
        have hP : va_P G.1 vwCl (fl [wMo G dh0 dh1 dh2 dh3 dh4 dh5 dh6 dh7 u_10]) H := hP
        have hD : va_D A (fl [wMo G dh0 dh1 dh2 dh3 dh4 dh5 dh6 dh7 u_10]) := hD
        refine W.eq (g2 := F0 m 44 ls [.int (0 : Int32)]) rfl ?_
        have hF : f_X10_lifts d dr dy = (let y_14 : Int32 := (f_X10_ofException u_10 (f_X10_place u_4 dr dy) (2 : Int32)); (let y_15 : Int32 := ((55 : Int32) + ((3 : Int32) * (f_X10_place u_4 dr dy))); (lp_X10_lifts_65 d dr dy u_4 u_10 y_14 y_15 60 y_15 u_10))) := by subst eu_10; exact hF
        have hok : (ok_X10_ofException u_10 (f_X10_place u_4 dr dy) (2 : Int32) ∧ (let y_14 : Int32 := (f_X10_ofException u_10 (f_X10_place u_4 dr dy) (2 : Int32)); (let y_15 : Int32 := ((55 : Int32) + ((3 : Int32) * (f_X10_place u_4 dr dy))); (okl_lp_X10_lifts_65 d dr dy u_4 u_10 y_14 y_15 60 y_15 u_10)))) := by subst eu_10; exact hok
        refine lv_if_eq (tgt := 49) hx hb dX10_lifts_44 (by decide) (fun c_11 => ?_) (fun c_11 => ?_)
        · refine lv_aload_n hx hb dX10_lifts_49 rfl (lv_at hl 1 rfl) ?_
          refine lv_iload_n hx hb dX10_lifts_50 rfl (lv_at hl 0 rfl) ?_
          refine lv_iconst (v := (2 : Int32)) hx hb dX10_lifts_51 (by decide) ?_
          have k_12 := hok.1
          have hok := hok.2
          refine r_V (own := RX10) (v := (some (.int (f_X10_ofException u_10 (f_X10_place u_4 dr dy) (2 : Int32))))) (st1 := [.int (f_X10_ofException u_10 (f_X10_place u_4 dr dy) (2 : Int32))]) (As := [.int (f_X10_place u_4 dr dy), .int (2 : Int32)]) (rest := []) (c_X10_ofException l G dh0 dh1 dh2 dh3 dh4 dh5 dh6 dh7 u_10 (f_X10_place u_4 dr dy) (2 : Int32) k_12) ⟨hx, hb, hml, hown, hts⟩ g_X10_82 hdv_X10_ofException hK hST hS hP [0, 1, 2, 3, 4, 5, 6, 7] rfl (k0 := 0) rfl rfl rfl ⟨Nat.le_of_ble_eq_true rfl, Nat.le_of_ble_eq_true rfl⟩ ⟨Nat.le_of_ble_eq_true rfl, Nat.le_of_ble_eq_true rfl⟩ rfl hl.1 rfl (Nat.le_of_ble_eq_true rfl) dX10_lifts_52 rfl (fun b_13 => ?_)
          refine lv_topi (fun y_14 ey_14 => ?_)
          have hF : f_X10_lifts d dr dy = (let y_15 : Int32 := ((55 : Int32) + ((3 : Int32) * (f_X10_place u_4 dr dy))); (lp_X10_lifts_65 d dr dy u_4 u_10 y_14 y_15 60 y_15 u_10)) := by subst ey_14; exact hF
          have hok : (let y_15 : Int32 := ((55 : Int32) + ((3 : Int32) * (f_X10_place u_4 dr dy))); (okl_lp_X10_lifts_65 d dr dy u_4 u_10 y_14 y_15 60 y_15 u_10)) := by subst ey_14; exact hok
          refine lv_istore (lv' := [(4, .int y_14), (3, .int (f_X10_place u_4 dr dy)), (0, .ref dh0), (1, .int dr), (2, .int dy)]) hx hb dX10_lifts_55 hl (by decide) rfl (fun ls hl => ?_)
          refine lv_bipush (v := (55 : Int32)) hx hb dX10_lifts_57 (by decide) ?_
          refine lv_iconst (v := (3 : Int32)) hx hb dX10_lifts_59 (by decide) ?_
          refine lv_iload_n hx hb dX10_lifts_60 rfl (lv_at hl 1 rfl) ?_
          refine lv_imul hx hb dX10_lifts_61 ?_
          refine lv_iadd hx hb dX10_lifts_62 ?_
          refine lv_topi (fun y_15 ey_15 => ?_)
          have hF : f_X10_lifts d dr dy = (lp_X10_lifts_65 d dr dy u_4 u_10 y_14 y_15 60 y_15 u_10) := by subst ey_15; exact hF
          have hok : (okl_lp_X10_lifts_65 d dr dy u_4 u_10 y_14 y_15 60 y_15 u_10) := by subst ey_15; exact hok
          refine lv_istore (lv' := [(5, .int y_15), (4, .int y_14), (3, .int (f_X10_place u_4 dr dy)), (0, .ref dh0), (1, .int dr), (2, .int dy)]) hx hb dX10_lifts_63 hl (by decide) rfl (fun ls hl => ?_)
          have L65 : ∀ (n : Nat) (x5 : Int32) (dL : MoV) (H : Heap) (locs : List Loc) (ls : Array Slot), lv_has ls 6 [(5, .int x5), (4, .int y_14), (3, .int (f_X10_place u_4 dr dy)), (0, .ref dh0), (1, .int dr), (2, .int dy)] → va_P G.1 vwCl (fl [wMo G dh0 dh1 dh2 dh3 dh4 dh5 dh6 dh7 dL]) H → va_D A (fl [wMo G dh0 dh1 dh2 dh3 dh4 dh5 dh6 dh7 dL]) → va_S A s.heap H locs → (True) → f_X10_lifts d dr dy = lp_X10_lifts_65 d dr dy u_4 u_10 y_14 y_15 n x5 dL → okl_lp_X10_lifts_65 d dr dy u_4 u_10 y_14 y_15 n x5 dL → W p l e (rmd 3 0 0) s m ([.ref dh0, .int dr, .int dy] : List Value).toArray below meth c H locs 0 0 (MQ below (wQ (fun u : Int32 × MoV => some (.int u.1)) (fun u : Int32 × MoV => u = f_X10_lifts d dr dy) (fun u : Int32 × MoV => fl [wMo G dh0 dh1 dh2 dh3 dh4 dh5 dh6 dh7 u.2]) G.1 A) ([.ref dh0, .int dr, .int dy] : List Value).toArray s 0 0 A) (F0 m 65 ls []) := by
            intro n
            induction n with
            | zero => intro x5 dL H locs ls hl _ _ _ hu hF hok; exact hok.elim
            | succ n ih =>
              intro x5 dL H locs ls hl hP hD hS hu hF hok
              have hF : f_X10_lifts d dr dy = (if ((55 : Int32) + ((3 : Int32) * ((dL.1 (4 : Int32).toNatClampNeg) - (1 : Int32)))) ≤ x5 then (let r_19 : Int32 × MoV := (lp_X10_lifts_118 d dr dy u_4 u_10 y_14 y_15 x5 dL ((((3 : Int32)).toInt - ((0 : Int32)).toInt).toNat + 1) (0 : Int32) (mo0 dL (upd dL.1 (4 : Int32).toNatClampNeg ((dL.1 (4 : Int32).toNatClampNeg) - (1 : Int32))))); (y_14, r_19.2)) else (lp_X10_lifts_65 d dr dy u_4 u_10 y_14 y_15 n (x5 + 1) (mo0 dL (upd dL.1 x5.toNatClampNeg (dL.1 (x5 + (3 : Int32)).toNatClampNeg))))) := hF
              have hok : (if ((55 : Int32) + ((3 : Int32) * ((dL.1 (4 : Int32).toNatClampNeg) - (1 : Int32)))) ≤ x5 then (okl_lp_X10_lifts_118 d dr dy u_4 u_10 y_14 y_15 x5 dL ((((3 : Int32)).toInt - ((0 : Int32)).toInt).toNat + 1) (0 : Int32) (mo0 dL (upd dL.1 (4 : Int32).toNatClampNeg ((dL.1 (4 : Int32).toNatClampNeg) - (1 : Int32)))) ∧ True) else (vp_in (x5 + (3 : Int32)) 249 ∧ (vp_in x5 249 ∧ (okl_lp_X10_lifts_65 d dr dy u_4 u_10 y_14 y_15 n (x5 + 1) (mo0 dL (upd dL.1 x5.toNatClampNeg (dL.1 (x5 + (3 : Int32)).toNatClampNeg))))))) := hok
              refine lv_iload hx hb dX10_lifts_65 (lv_at hl 0 rfl) ?_
              refine lv_bipush (v := (55 : Int32)) hx hb dX10_lifts_67 (by decide) ?_
              refine lv_iconst (v := (3 : Int32)) hx hb dX10_lifts_69 (by decide) ?_
              refine lv_aload_n hx hb dX10_lifts_70 rfl (lv_at hl 3 rfl) ?_
              refine va_get (D := G.1) (ci := 12) (v := .ref dh1) (C := RX10) (T := TX10) (N := 17) hx hb hts uws_X10 hown hK hP 0 rfl rfl 0 (by decide) (hts _ u_1680) (fun _ h9 => h9) rfl dX10_lifts_71 ?_
              refine lv_iconst (v := (4 : Int32)) hx hb dX10_lifts_74 (by decide) ?_
              refine va_iald hx hb hK hP 1 0 rfl rfl (vp_in_nI (n := 4) (by decide) (by decide)) dX10_lifts_75 ?_
              refine lv_iconst (v := (1 : Int32)) hx hb dX10_lifts_76 (by decide) ?_
              refine lv_isub hx hb dX10_lifts_77 ?_
              refine lv_imul hx hb dX10_lifts_78 ?_
              refine lv_iadd hx hb dX10_lifts_79 ?_
              refine lv_icmp_ge (tgt := 105) hx hb dX10_lifts_80 (by decide) (fun c_16 => ?_) (fun c_16 => ?_)
              · have hF := hF.trans (if_pos c_16)
                have hok := Eq.mp (if_pos c_16) hok
                refine lv_aload_n hx hb dX10_lifts_105 rfl (lv_at hl 3 rfl) ?_
                refine va_get (D := G.1) (ci := 12) (v := .ref dh1) (C := RX10) (T := TX10) (N := 17) hx hb hts uws_X10 hown hK hP 0 rfl rfl 0 (by decide) (hts _ u_1680) (fun _ h9 => h9) rfl dX10_lifts_106 ?_
                refine lv_iconst (v := (4 : Int32)) hx hb dX10_lifts_109 (by decide) ?_
                refine lv_dup2_11 hx hb dX10_lifts_110 rfl rfl ?_
                refine va_iald hx hb hK hP 1 0 rfl rfl (vp_in_nI (n := 4) (by decide) (by decide)) dX10_lifts_111 ?_
                refine lv_iconst (v := (1 : Int32)) hx hb dX10_lifts_112 (by decide) ?_
                refine lv_isub hx hb dX10_lifts_113 ?_
                refine va_iast hx hb hK hP hD hS 1 0 rfl rfl (vp_in_nI (n := 4) (by decide) (by decide)) dX10_lifts_114 (fun H locs hP hD hS => ?_)
                have hP : va_P G.1 vwCl (fl [wMo G dh0 dh1 dh2 dh3 dh4 dh5 dh6 dh7 (mo0 dL (upd dL.1 (4 : Int32).toNatClampNeg ((dL.1 (4 : Int32).toNatClampNeg) - (1 : Int32))))]) H := hP
                have hD : va_D A (fl [wMo G dh0 dh1 dh2 dh3 dh4 dh5 dh6 dh7 (mo0 dL (upd dL.1 (4 : Int32).toNatClampNeg ((dL.1 (4 : Int32).toNatClampNeg) - (1 : Int32))))]) := hD
                refine lv_iconst (v := (0 : Int32)) hx hb dX10_lifts_115 (by decide) ?_
                refine lv_istore (lv' := [(5, .int (0 : Int32)), (4, .int y_14), (3, .int (f_X10_place u_4 dr dy)), (0, .ref dh0), (1, .int dr), (2, .int dy)]) hx hb dX10_lifts_116 hl (by decide) rfl (fun ls hl => ?_)
                have hkI := hok.1
                have hok := hok.2
                have K118 : ∀ (r_19 : Int32 × MoV), r_19 = (lp_X10_lifts_118 d dr dy u_4 u_10 y_14 y_15 x5 dL ((((3 : Int32)).toInt - ((0 : Int32)).toInt).toNat + 1) (0 : Int32) (mo0 dL (upd dL.1 (4 : Int32).toNatClampNeg ((dL.1 (4 : Int32).toNatClampNeg) - (1 : Int32))))) → ∀ (H : Heap) (locs : List Loc), ∀ (ls : Array Slot), lv_has ls 6 [(5, .int r_19.1), (4, .int y_14), (3, .int (f_X10_place u_4 dr dy)), (0, .ref dh0), (1, .int dr), (2, .int dy)] → va_P G.1 vwCl (fl [wMo G dh0 dh1 dh2 dh3 dh4 dh5 dh6 dh7 r_19.2]) H → va_D A (fl [wMo G dh0 dh1 dh2 dh3 dh4 dh5 dh6 dh7 r_19.2]) → va_S A s.heap H locs → W p l e (rmd 3 0 0) s m ([.ref dh0, .int dr, .int dy] : List Value).toArray below meth c H locs 0 0 (MQ below (wQ (fun u : Int32 × MoV => some (.int u.1)) (fun u : Int32 × MoV => u = f_X10_lifts d dr dy) (fun u : Int32 × MoV => fl [wMo G dh0 dh1 dh2 dh3 dh4 dh5 dh6 dh7 u.2]) G.1 A) ([.ref dh0, .int dr, .int dy] : List Value).toArray s 0 0 A) (F0 m 150 ls []) := by
                  intro r_19 er_19 H locs ls hl hP hD hS
                  have hF : f_X10_lifts d dr dy = (y_14, r_19.2) := by subst er_19; exact hF
                  refine lv_iload hx hb dX10_lifts_150 (lv_at hl 1 rfl) ?_
                  exact w_ret (u := (y_14, r_19.2)) hx hb hr hlk rfl hS rfl hF.symm hP hD (Nat.le_of_ble_eq_true rfl) (Nat.le_of_ble_eq_true rfl) dX10_lifts_152
                have L118 : ∀ (n : Nat) (x5' : Int32) (dL' : MoV) (H : Heap) (locs : List Loc) (ls : Array Slot), lv_has ls 6 [(5, .int x5'), (4, .int y_14), (3, .int (f_X10_place u_4 dr dy)), (0, .ref dh0), (1, .int dr), (2, .int dy)] → va_P G.1 vwCl (fl [wMo G dh0 dh1 dh2 dh3 dh4 dh5 dh6 dh7 dL']) H → va_D A (fl [wMo G dh0 dh1 dh2 dh3 dh4 dh5 dh6 dh7 dL']) → va_S A s.heap H locs → (upI x5' (3 : Int32) n) → (lp_X10_lifts_118 d dr dy u_4 u_10 y_14 y_15 x5 dL ((((3 : Int32)).toInt - ((0 : Int32)).toInt).toNat + 1) (0 : Int32) (mo0 dL (upd dL.1 (4 : Int32).toNatClampNeg ((dL.1 (4 : Int32).toNatClampNeg) - (1 : Int32))))) = lp_X10_lifts_118 d dr dy u_4 u_10 y_14 y_15 x5 dL n x5' dL' → okl_lp_X10_lifts_118 d dr dy u_4 u_10 y_14 y_15 x5 dL n x5' dL' → W p l e (rmd 3 0 0) s m ([.ref dh0, .int dr, .int dy] : List Value).toArray below meth c H locs 0 0 (MQ below (wQ (fun u : Int32 × MoV => some (.int u.1)) (fun u : Int32 × MoV => u = f_X10_lifts d dr dy) (fun u : Int32 × MoV => fl [wMo G dh0 dh1 dh2 dh3 dh4 dh5 dh6 dh7 u.2]) G.1 A) ([.ref dh0, .int dr, .int dy] : List Value).toArray s 0 0 A) (F0 m 118 ls []) := by
                  intro n
                  induction n with
                  | zero => intro x5' dL' H locs ls hl _ _ _ hu; exact absurd hu (upI_0)
                  | succ n ih =>
                    intro x5' dL' H locs ls hl hP hD hS hu hI hok
                    have hI : (lp_X10_lifts_118 d dr dy u_4 u_10 y_14 y_15 x5 dL ((((3 : Int32)).toInt - ((0 : Int32)).toInt).toNat + 1) (0 : Int32) (mo0 dL (upd dL.1 (4 : Int32).toNatClampNeg ((dL.1 (4 : Int32).toNatClampNeg) - (1 : Int32))))) = (if (3 : Int32) ≤ x5' then (x5', dL') else (lp_X10_lifts_118 d dr dy u_4 u_10 y_14 y_15 x5 dL n (x5' + 1) (mo0 dL' (upd dL'.1 (((55 : Int32) + ((3 : Int32) * (dL'.1 (4 : Int32).toNatClampNeg))) + x5').toNatClampNeg (0 : Int32))))) := hI
                    have hok : (if (3 : Int32) ≤ x5' then True else (vp_in (((55 : Int32) + ((3 : Int32) * (dL'.1 (4 : Int32).toNatClampNeg))) + x5') 249 ∧ (okl_lp_X10_lifts_118 d dr dy u_4 u_10 y_14 y_15 x5 dL n (x5' + 1) (mo0 dL' (upd dL'.1 (((55 : Int32) + ((3 : Int32) * (dL'.1 (4 : Int32).toNatClampNeg))) + x5').toNatClampNeg (0 : Int32)))))) := hok
                    refine lv_iload hx hb dX10_lifts_118 (lv_at hl 0 rfl) ?_
                    refine lv_iconst (v := (3 : Int32)) hx hb dX10_lifts_120 (by decide) ?_
                    refine lv_icmp_ge (tgt := 150) hx hb dX10_lifts_121 (by decide) (fun c_17 => ?_) (fun c_17 => ?_)
                    · have hI := hI.trans (if_pos c_17)
                      have hok := Eq.mp (if_pos c_17) hok
                      exact K118 _ hI.symm _ _ ls (lv_sub hl [0, 1, 2, 3, 4, 5] rfl) hP hD hS
                    · have hI := hI.trans (if_neg c_17)
                      have hok := Eq.mp (if_neg c_17) hok
                      refine lv_aload_n hx hb dX10_lifts_124 rfl (lv_at hl 3 rfl) ?_
                      refine va_get (D := G.1) (ci := 12) (v := .ref dh1) (C := RX10) (T := TX10) (N := 17) hx hb hts uws_X10 hown hK hP 0 rfl rfl 0 (by decide) (hts _ u_1680) (fun _ h9 => h9) rfl dX10_lifts_125 ?_
                      refine lv_bipush (v := (55 : Int32)) hx hb dX10_lifts_128 (by decide) ?_
                      refine lv_iconst (v := (3 : Int32)) hx hb dX10_lifts_130 (by decide) ?_
                      refine lv_aload_n hx hb dX10_lifts_131 rfl (lv_at hl 3 rfl) ?_
                      refine va_get (D := G.1) (ci := 12) (v := .ref dh1) (C := RX10) (T := TX10) (N := 17) hx hb hts uws_X10 hown hK hP 0 rfl rfl 0 (by decide) (hts _ u_1680) (fun _ h9 => h9) rfl dX10_lifts_132 ?_
                      refine lv_iconst (v := (4 : Int32)) hx hb dX10_lifts_135 (by decide) ?_
                      refine va_iald hx hb hK hP 1 0 rfl rfl (vp_in_nI (n := 4) (by decide) (by decide)) dX10_lifts_136 ?_
                      refine lv_imul hx hb dX10_lifts_137 ?_
                      refine lv_iadd hx hb dX10_lifts_138 ?_
                      refine lv_iload hx hb dX10_lifts_139 (lv_at hl 0 rfl) ?_
                      refine lv_iadd hx hb dX10_lifts_141 ?_
                      refine lv_iconst (v := (0 : Int32)) hx hb dX10_lifts_142 (by decide) ?_
                      have h_18 := hok.1
                      have hok := hok.2
                      refine va_iast hx hb hK hP hD hS 1 0 rfl rfl h_18 dX10_lifts_143 (fun H locs hP hD hS => ?_)
                      have hP : va_P G.1 vwCl (fl [wMo G dh0 dh1 dh2 dh3 dh4 dh5 dh6 dh7 (mo0 dL' (upd dL'.1 (((55 : Int32) + ((3 : Int32) * (dL'.1 (4 : Int32).toNatClampNeg))) + x5').toNatClampNeg (0 : Int32)))]) H := hP
                      have hD : va_D A (fl [wMo G dh0 dh1 dh2 dh3 dh4 dh5 dh6 dh7 (mo0 dL' (upd dL'.1 (((55 : Int32) + ((3 : Int32) * (dL'.1 (4 : Int32).toNatClampNeg))) + x5').toNatClampNeg (0 : Int32)))]) := hD
                      refine lv_iinc (v := (x5' + 1)) (lv' := [(5, .int (x5' + 1)), (4, .int y_14), (3, .int (f_X10_place u_4 dr dy)), (0, .ref dh0), (1, .int dr), (2, .int dy)]) hx hb dX10_lifts_144 hl (k := 0) rfl rfl (by decide) rfl (fun ls hl => ?_)
                      refine lv_goto (tgt := 118) hx hb dX10_lifts_147 (by decide) ?_
                      exact ih (x5' + 1) (mo0 dL' (upd dL'.1 (((55 : Int32) + ((3 : Int32) * (dL'.1 (4 : Int32).toNatClampNeg))) + x5').toNatClampNeg (0 : Int32))) _ _ ls (lv_sub hl [0, 1, 2, 3, 4, 5] rfl) hP hD hS (upI_s (Int32.not_le.mp c_17) hu) hI hok
                exact L118 ((((3 : Int32)).toInt - ((0 : Int32)).toInt).toNat + 1) (0 : Int32) (mo0 dL (upd dL.1 (4 : Int32).toNatClampNeg ((dL.1 (4 : Int32).toNatClampNeg) - (1 : Int32)))) _ _ ls (lv_sub hl [0, 1, 2, 3, 4, 5] rfl) hP hD hS (upI_i) rfl hkI
              · have hF := hF.trans (if_neg c_16)
                have hok := Eq.mp (if_neg c_16) hok
                refine lv_aload_n hx hb dX10_lifts_83 rfl (lv_at hl 3 rfl) ?_
                refine va_get (D := G.1) (ci := 12) (v := .ref dh1) (C := RX10) (T := TX10) (N := 17) hx hb hts uws_X10 hown hK hP 0 rfl rfl 0 (by decide) (hts _ u_1680) (fun _ h9 => h9) rfl dX10_lifts_84 ?_
                refine lv_iload hx hb dX10_lifts_87 (lv_at hl 0 rfl) ?_
                refine lv_aload_n hx hb dX10_lifts_89 rfl (lv_at hl 3 rfl) ?_
                refine va_get (D := G.1) (ci := 12) (v := .ref dh1) (C := RX10) (T := TX10) (N := 17) hx hb hts uws_X10 hown hK hP 0 rfl rfl 0 (by decide) (hts _ u_1680) (fun _ h9 => h9) rfl dX10_lifts_90 ?_
                refine lv_iload hx hb dX10_lifts_93 (lv_at hl 0 rfl) ?_
                refine lv_iconst (v := (3 : Int32)) hx hb dX10_lifts_95 (by decide) ?_
                refine lv_iadd hx hb dX10_lifts_96 ?_
                have h_20 := hok.1
                have hok := hok.2
                refine va_iald hx hb hK hP 1 0 rfl rfl h_20 dX10_lifts_97 ?_
                have h_21 := hok.1
                have hok := hok.2
                refine va_iast hx hb hK hP hD hS 1 0 rfl rfl h_21 dX10_lifts_98 (fun H locs hP hD hS => ?_)
                have hP : va_P G.1 vwCl (fl [wMo G dh0 dh1 dh2 dh3 dh4 dh5 dh6 dh7 (mo0 dL (upd dL.1 x5.toNatClampNeg (dL.1 (x5 + (3 : Int32)).toNatClampNeg)))]) H := hP
                have hD : va_D A (fl [wMo G dh0 dh1 dh2 dh3 dh4 dh5 dh6 dh7 (mo0 dL (upd dL.1 x5.toNatClampNeg (dL.1 (x5 + (3 : Int32)).toNatClampNeg)))]) := hD
                refine lv_iinc (v := (x5 + 1)) (lv' := [(5, .int (x5 + 1)), (4, .int y_14), (3, .int (f_X10_place u_4 dr dy)), (0, .ref dh0), (1, .int dr), (2, .int dy)]) hx hb dX10_lifts_99 hl (k := 0) rfl rfl (by decide) rfl (fun ls hl => ?_)
                refine lv_goto (tgt := 65) hx hb dX10_lifts_102 (by decide) ?_
                exact ih (x5 + 1) (mo0 dL (upd dL.1 x5.toNatClampNeg (dL.1 (x5 + (3 : Int32)).toNatClampNeg))) _ _ ls (lv_sub hl [0, 1, 2, 3, 4, 5] rfl) hP hD hS (trivial) hF hok
          exact L65 60 y_15 u_10 _ _ ls (lv_sub hl [0, 1, 2, 3, 4, 5] rfl) hP hD hS (trivial) hF hok
        · exact absurd c_11 (by decide)
      · have hF := hF.trans (if_neg c_8)
        have hok := Eq.mp (if_neg c_8) hok
        refine lv_iconst (v := (1 : Int32)) hx hb dX10_lifts_35 (by decide) ?_
        refine lv_goto (tgt := 40) hx hb dX10_lifts_36 (by decide) ?_
        refine lv_iconst (v := (2 : Int32)) hx hb dX10_lifts_40 (by decide) ?_
        refine w_V (own := RX10) (cs := [wMo G dh0 dh1 dh2 dh3 dh4 dh5 dh6 dh7 u_4]) (rs := []) (As := [.int (1 : Int32), .int (2 : Int32)]) (rest := []) (c_X10_isThrown l G dh0 dh1 dh2 dh3 dh4 dh5 dh6 dh7 H.size u_4 (1 : Int32) (2 : Int32) (rfl)) ⟨hx, hb, hml, hown, hts⟩ g_X10_63 hdv_X10_isThrown hK hST hS hP hD hA [0] [] rfl rfl rfl (k0 := 0) rfl rfl rfl ⟨Nat.le_of_ble_eq_true rfl, Nat.le_of_ble_eq_true rfl⟩ ⟨Nat.le_of_ble_eq_true rfl, Nat.le_of_ble_eq_true rfl⟩ rfl hl.1 rfl (Nat.le_of_ble_eq_true rfl) dX10_lifts_41 (fun u_23 H locs huu hP hD hS => ?_)
        have eu_23 := huu
        have hP : va_P G.1 vwCl (fl [wMo G dh0 dh1 dh2 dh3 dh4 dh5 dh6 dh7 u_23]) H := hP
        have hD : va_D A (fl [wMo G dh0 dh1 dh2 dh3 dh4 dh5 dh6 dh7 u_23]) := hD
        refine W.eq (g2 := F0 m 44 ls [.int (1 : Int32)]) rfl ?_
        have hF : f_X10_lifts d dr dy = ((0 : Int32), u_23) := by subst eu_23; exact hF
        refine lv_if_eq (tgt := 49) hx hb dX10_lifts_44 (by decide) (fun c_24 => ?_) (fun c_24 => ?_)
        · exact absurd c_24 (by decide)
        · refine lv_iconst (v := (0 : Int32)) hx hb dX10_lifts_47 (by decide) ?_
          exact w_ret (u := ((0 : Int32), u_23)) hx hb hr hlk rfl hS rfl hF.symm hP hD (Nat.le_of_ble_eq_true rfl) (Nat.le_of_ble_eq_true rfl) dX10_lifts_48
    · exact absurd c_5 (by decide)
  · have hF := hF.trans (if_pos c_2)
    have hok := Eq.mp (if_pos c_2) hok
    refine lv_iconst (v := (1 : Int32)) hx hb dX10_lifts_9 (by decide) ?_
    refine lv_goto (tgt := 14) hx hb dX10_lifts_10 (by decide) ?_
    refine lv_iconst (v := (1 : Int32)) hx hb dX10_lifts_14 (by decide) ?_
    refine w_V (own := RX10) (cs := [wMo G dh0 dh1 dh2 dh3 dh4 dh5 dh6 dh7 d]) (rs := []) (As := [.int (1 : Int32), .int (1 : Int32)]) (rest := []) (c_X10_isThrown l G dh0 dh1 dh2 dh3 dh4 dh5 dh6 dh7 s.heap.size d (1 : Int32) (1 : Int32) (rfl)) ⟨hx, hb, hml, hown, hts⟩ g_X10_63 hdv_X10_isThrown hK hST hS hP hD hA [0] [] rfl rfl rfl (k0 := 0) rfl rfl rfl ⟨Nat.le_of_ble_eq_true rfl, Nat.le_of_ble_eq_true rfl⟩ ⟨Nat.le_of_ble_eq_true rfl, Nat.le_of_ble_eq_true rfl⟩ rfl hl.1 rfl (Nat.le_of_ble_eq_true rfl) dX10_lifts_15 (fun u_26 H locs huu hP hD hS => ?_)
    have eu_26 := huu
    have hP : va_P G.1 vwCl (fl [wMo G dh0 dh1 dh2 dh3 dh4 dh5 dh6 dh7 u_26]) H := hP
    have hD : va_D A (fl [wMo G dh0 dh1 dh2 dh3 dh4 dh5 dh6 dh7 u_26]) := hD
    refine W.eq (g2 := F0 m 18 ls [.int (1 : Int32)]) rfl ?_
    have hF : f_X10_lifts d dr dy = ((0 : Int32), u_26) := by subst eu_26; exact hF
    refine lv_if_eq (tgt := 23) hx hb dX10_lifts_18 (by decide) (fun c_27 => ?_) (fun c_27 => ?_)
    · exact absurd c_27 (by decide)
    · refine lv_iconst (v := (0 : Int32)) hx hb dX10_lifts_21 (by decide) ?_
      exact w_ret (u := ((0 : Int32), u_26)) hx hb hr hlk rfl hS rfl hF.symm hP hD (Nat.le_of_ble_eq_true rfl) (Nat.le_of_ble_eq_true rfl) dX10_lifts_22
theorem dX10_liftException_0 : decode cX10_liftException 0 = .ok (.aload_n 0, 1) := by decide +kernel
theorem dX10_liftException_1 : decode cX10_liftException 1 = .ok (.invokevirtual 56, 3) := by decide +kernel
theorem dX10_liftException_4 : decode cX10_liftException 4 = .ok (.aload_n 0, 1) := by decide +kernel
theorem dX10_liftException_5 : decode cX10_liftException 5 = .ok (.aload_n 0, 1) := by decide +kernel
theorem dX10_liftException_6 : decode cX10_liftException 6 = .ok (.iload_n 1, 1) := by decide +kernel
theorem dX10_liftException_7 : decode cX10_liftException 7 = .ok (.iload_n 2, 1) := by decide +kernel
theorem dX10_liftException_8 : decode cX10_liftException 8 = .ok (.invokevirtual 96, 3) := by decide +kernel
theorem u_1804 : Cond.methodLink RX10 96 yX10_lifts ∈ UW := uw 1804 (by decide +kernel) rfl
theorem u_1806 : Cond.instanceMethod yX10_lifts ∈ UW := uw 1806 (by decide +kernel) rfl
theorem u_30 : Cond.selects RX10 yX10_lifts yX10_lifts ∈ UW := uw 30 (by decide +kernel) rfl
theorem u_1807 : Cond.code yX10_lifts cX10_lifts 6 (some .int) ∈ UW := uw 1807 (by decide +kernel) rfl
theorem g_X10_96 : GoodIn UW (wsV RX10 96 RX10 yX10_lifts (wsU yX10_lifts cX10_lifts 6 (some .int))) := gV u_1804 u_1806 u_30 u_77 u_1807
theorem hdv_X10_lifts : yX10_lifts.cls = RX10 ∧ yX10_lifts.cls ≠ "java/lang/invoke/MethodHandle" ∧ yX10_lifts.cls ≠ "java/lang/invoke/VarHandle" ∧ (parseMethodDescriptor yX10_lifts.desc).map (fun d => d.parameters.length) = some 2 := by decide +kernel
theorem dX10_liftException_11 : decode cX10_liftException 11 = .ok (.invokevirtual 71, 3) := by decide +kernel
theorem dX10_liftException_14 : decode cX10_liftException 14 = .ok (.iconst 1, 1) := by decide +kernel
theorem dX10_liftException_15 : decode cX10_liftException 15 = .ok (.if_icmp .ne 7, 3) := by decide +kernel
theorem dX10_liftException_22 : decode cX10_liftException 22 = .ok (.iconst 0, 1) := by decide +kernel
theorem dX10_liftException_23 : decode cX10_liftException 23 = .ok (.ireturn, 1) := by decide +kernel
theorem dX10_liftException_18 : decode cX10_liftException 18 = .ok (.iconst 1, 1) := by decide +kernel
theorem dX10_liftException_19 : decode cX10_liftException 19 = .ok (.goto 4, 3) := by decide +kernel
def f_X10_liftException (d : MoV) (dr : Int32) (dy : Int32) : Int32 × MoV := (let u_3 : MoV := (f_X10_keeps d); (let u_6 : Int32 × MoV := (f_X10_lifts u_3 dr dy); (let u_9 : Int32 × MoV := (f_X10_ends u_6.2 u_6.1); (if u_9.1 = (1 : Int32) then ((1 : Int32), u_9.2) else ((0 : Int32), u_9.2)))))
def ok_X10_liftException (d : MoV) (dr : Int32) (dy : Int32) : Prop := (ok_X10_keeps d ∧ (let u_3 : MoV := (f_X10_keeps d); (ok_X10_lifts u_3 dr dy ∧ (let u_6 : Int32 × MoV := (f_X10_lifts u_3 dr dy); (ok_X10_ends u_6.2 u_6.1 ∧ True)))))
set_option maxHeartbeats 4000000 in
set_option maxRecDepth 100000 in
theorem c_X10_liftException (l : Launch) (G : GG) (dh0 : Nat) (dh1 : Nat) (dh2 : Nat) (dh3 : Nat) (dh4 : Nat) (dh5 : Nat) (dh6 : Nat) (dh7 : Nat) (sz : Nat) (d : MoV) (dr : Int32) (dy : Int32) (hok : ok_X10_liftException d dr dy) : wMet l yX10_liftException cX10_liftException 3 (some .boolean) 4 0 0 G (fl [wMo G dh0 dh1 dh2 dh3 dh4 dh5 dh6 dh7 d]) [.ref dh0, .int dr, .int dy] sz (fun u : Int32 × MoV => some (.int u.1)) (fun u : Int32 × MoV => u = f_X10_liftException d dr dy ∧ narrow .boolean (.int ((f_X10_liftException d dr dy).1)) = .int ((f_X10_liftException d dr dy).1)) (fun u : Int32 × MoV => fl [wMo G dh0 dh1 dh2 dh3 dh4 dh5 dh6 dh7 u.2]) := by
  refine w_start (by decide +kernel) (Nat.le_of_ble_eq_true rfl) ?_
  intro p e s m below meth c A hx hb hr hml hts hown hlk hin hP hD hA hK hST ls hl
  have hS : va_S A s.heap s.heap [] := va_S.rf
  have hown : s.vm.findClass RX10 = some m.cls := hown
  have hl : lv_has ls 3 [(0, .ref dh0), (1, .int dr), (2, .int dy)] := hl
  have hF : f_X10_liftException d dr dy = (let u_3 : MoV := (f_X10_keeps d); (let u_6 : Int32 × MoV := (f_X10_lifts u_3 dr dy); (let u_9 : Int32 × MoV := (f_X10_ends u_6.2 u_6.1); (if u_9.1 = (1 : Int32) then ((1 : Int32), u_9.2) else ((0 : Int32), u_9.2))))) := rfl
  have hok : (ok_X10_keeps d ∧ (let u_3 : MoV := (f_X10_keeps d); (ok_X10_lifts u_3 dr dy ∧ (let u_6 : Int32 × MoV := (f_X10_lifts u_3 dr dy); (ok_X10_ends u_6.2 u_6.1 ∧ True))))) := hok
  refine lv_aload_n hx hb dX10_liftException_0 rfl (lv_at hl 0 rfl) ?_
  have k_1 := hok.1
  have hok := hok.2
  refine w_V (own := RX10) (cs := [wMo G dh0 dh1 dh2 dh3 dh4 dh5 dh6 dh7 d]) (rs := []) (As := []) (rest := []) (c_X10_keeps l G dh0 dh1 dh2 dh3 dh4 dh5 dh6 dh7 s.heap.size d k_1) ⟨hx, hb, hml, hown, hts⟩ g_X10_56 hdv_X10_keeps hK hST hS hP hD hA [0] [] rfl rfl rfl (k0 := 0) rfl rfl rfl ⟨Nat.le_of_ble_eq_true rfl, Nat.le_of_ble_eq_true rfl⟩ ⟨Nat.le_of_ble_eq_true rfl, Nat.le_of_ble_eq_true rfl⟩ rfl hl.1 rfl (Nat.le_of_ble_eq_true rfl) dX10_liftException_1 (fun u_3 H locs huu hP hD hS => ?_)
  have eu_3 := huu
  have hP : va_P G.1 vwCl (fl [wMo G dh0 dh1 dh2 dh3 dh4 dh5 dh6 dh7 u_3]) H := hP
  have hD : va_D A (fl [wMo G dh0 dh1 dh2 dh3 dh4 dh5 dh6 dh7 u_3]) := hD
  refine W.eq (g2 := F0 m 4 ls []) rfl ?_
  have hF : f_X10_liftException d dr dy = (let u_6 : Int32 × MoV := (f_X10_lifts u_3 dr dy); (let u_9 : Int32 × MoV := (f_X10_ends u_6.2 u_6.1); (if u_9.1 = (1 : Int32) then ((1 : Int32), u_9.2) else ((0 : Int32), u_9.2)))) := by subst eu_3; exact hF
  have hok : (ok_X10_lifts u_3 dr dy ∧ (let u_6 : Int32 × MoV := (f_X10_lifts u_3 dr dy); (ok_X10_ends u_6.2 u_6.1 ∧ True))) := by subst eu_3; exact hok
  refine lv_aload_n hx hb dX10_liftException_4 rfl (lv_at hl 0 rfl) ?_
  refine lv_aload_n hx hb dX10_liftException_5 rfl (lv_at hl 0 rfl) ?_
  refine lv_iload_n hx hb dX10_liftException_6 rfl (lv_at hl 1 rfl) ?_
  refine lv_iload_n hx hb dX10_liftException_7 rfl (lv_at hl 2 rfl) ?_
  have k_4 := hok.1
  have hok := hok.2
  refine w_V (own := RX10) (cs := [wMo G dh0 dh1 dh2 dh3 dh4 dh5 dh6 dh7 u_3]) (rs := []) (As := [.int dr, .int dy]) (rest := [.ref dh0]) (c_X10_lifts l G dh0 dh1 dh2 dh3 dh4 dh5 dh6 dh7 H.size u_3 dr dy k_4) ⟨hx, hb, hml, hown, hts⟩ g_X10_96 hdv_X10_lifts hK hST hS hP hD hA [0] [] rfl rfl rfl (k0 := 0) rfl rfl rfl ⟨Nat.le_of_ble_eq_true rfl, Nat.le_of_ble_eq_true rfl⟩ ⟨Nat.le_of_ble_eq_true rfl, Nat.le_of_ble_eq_true rfl⟩ rfl hl.1 rfl (Nat.le_of_ble_eq_true rfl) dX10_liftException_8 (fun u_6 H locs huu hP hD hS => ?_)
  have eu_6 := huu
  have hP : va_P G.1 vwCl (fl [wMo G dh0 dh1 dh2 dh3 dh4 dh5 dh6 dh7 u_6.2]) H := hP
  have hD : va_D A (fl [wMo G dh0 dh1 dh2 dh3 dh4 dh5 dh6 dh7 u_6.2]) := hD
  refine W.eq (g2 := F0 m 11 ls [.int u_6.1, .ref dh0]) rfl ?_
  have hF : f_X10_liftException d dr dy = (let u_9 : Int32 × MoV := (f_X10_ends u_6.2 u_6.1); (if u_9.1 = (1 : Int32) then ((1 : Int32), u_9.2) else ((0 : Int32), u_9.2))) := by subst eu_6; exact hF
  have hok : (ok_X10_ends u_6.2 u_6.1 ∧ True) := by subst eu_6; exact hok
  have k_7 := hok.1
  have hok := hok.2
  refine w_V (own := RX10) (cs := [wMo G dh0 dh1 dh2 dh3 dh4 dh5 dh6 dh7 u_6.2]) (rs := []) (As := [.int u_6.1]) (rest := []) (c_X10_ends l G dh0 dh1 dh2 dh3 dh4 dh5 dh6 dh7 H.size u_6.2 u_6.1 k_7) ⟨hx, hb, hml, hown, hts⟩ g_X10_71 hdv_X10_ends hK hST hS hP hD hA [0] [] rfl rfl rfl (k0 := 0) rfl rfl rfl ⟨Nat.le_of_ble_eq_true rfl, Nat.le_of_ble_eq_true rfl⟩ ⟨Nat.le_of_ble_eq_true rfl, Nat.le_of_ble_eq_true rfl⟩ rfl hl.1 rfl (Nat.le_of_ble_eq_true rfl) dX10_liftException_11 (fun u_9 H locs huu hP hD hS => ?_)
  have eu_9 := huu
  have hP : va_P G.1 vwCl (fl [wMo G dh0 dh1 dh2 dh3 dh4 dh5 dh6 dh7 u_9.2]) H := hP
  have hD : va_D A (fl [wMo G dh0 dh1 dh2 dh3 dh4 dh5 dh6 dh7 u_9.2]) := hD
  refine W.eq (g2 := F0 m 14 ls [.int u_9.1]) rfl ?_
  have hF : f_X10_liftException d dr dy = (if u_9.1 = (1 : Int32) then ((1 : Int32), u_9.2) else ((0 : Int32), u_9.2)) := by subst eu_9; exact hF
  refine lv_iconst (v := (1 : Int32)) hx hb dX10_liftException_14 (by decide) ?_
  refine lv_icmp_ne (tgt := 22) hx hb dX10_liftException_15 (by decide) (fun c_10 => ?_) (fun c_10 => ?_)
  · have hF := hF.trans (if_neg c_10)
    refine lv_iconst (v := (0 : Int32)) hx hb dX10_liftException_22 (by decide) ?_
    exact w_ret (u := ((0 : Int32), u_9.2)) hx hb hr hlk rfl hS rfl ⟨hF.symm, (by rw [hF]; exact (rfl : narrow .boolean (.int (0 : Int32)) = .int (0 : Int32)))⟩ hP hD (Nat.le_of_ble_eq_true rfl) (Nat.le_of_ble_eq_true rfl) dX10_liftException_23
  · have hF := hF.trans (if_pos c_10)
    refine lv_iconst (v := (1 : Int32)) hx hb dX10_liftException_18 (by decide) ?_
    refine lv_goto (tgt := 23) hx hb dX10_liftException_19 (by decide) ?_
    exact w_ret (u := ((1 : Int32), u_9.2)) hx hb hr hlk rfl hS rfl ⟨hF.symm, (by rw [hF]; exact (rfl : narrow .boolean (.int (1 : Int32)) = .int (1 : Int32)))⟩ hP hD (Nat.le_of_ble_eq_true rfl) (Nat.le_of_ble_eq_true rfl) dX10_liftException_23
theorem dX10_isPhaseOf_0 : decode cX10_isPhaseOf 0 = .ok (.aload_n 0, 1) := by decide +kernel
theorem dX10_isPhaseOf_1 : decode cX10_isPhaseOf 1 = .ok (.iload_n 1, 1) := by decide +kernel
theorem dX10_isPhaseOf_2 : decode cX10_isPhaseOf 2 = .ok (.iconst 0, 1) := by decide +kernel
theorem dX10_isPhaseOf_3 : decode cX10_isPhaseOf 3 = .ok (.invokevirtual 78, 3) := by decide +kernel
theorem dX10_isPhaseOf_6 : decode cX10_isPhaseOf 6 = .ok (.aload_n 0, 1) := by decide +kernel
theorem dX10_isPhaseOf_7 : decode cX10_isPhaseOf 7 = .ok (.iload_n 2, 1) := by decide +kernel
theorem dX10_isPhaseOf_8 : decode cX10_isPhaseOf 8 = .ok (.invokevirtual 99, 3) := by decide +kernel
theorem u_1859 : Cond.methodLink RX10 99 yX10_phase ∈ UW := uw 1859 (by decide +kernel) rfl
theorem u_1861 : Cond.instanceMethod yX10_phase ∈ UW := uw 1861 (by decide +kernel) rfl
theorem u_39 : Cond.selects RX10 yX10_phase yX10_phase ∈ UW := uw 39 (by decide +kernel) rfl
theorem u_1862 : Cond.code yX10_phase cX10_phase 2 (some .int) ∈ UW := uw 1862 (by decide +kernel) rfl
theorem g_X10_99 : GoodIn UW (wsV RX10 99 RX10 yX10_phase (wsU yX10_phase cX10_phase 2 (some .int))) := gV u_1859 u_1861 u_39 u_77 u_1862
theorem hdv_X10_phase : yX10_phase.cls = RX10 ∧ yX10_phase.cls ≠ "java/lang/invoke/MethodHandle" ∧ yX10_phase.cls ≠ "java/lang/invoke/VarHandle" ∧ (parseMethodDescriptor yX10_phase.desc).map (fun d => d.parameters.length) = some 1 := by decide +kernel
theorem dX10_isPhaseOf_11 : decode cX10_isPhaseOf 11 = .ok (.ishr, 1) := by decide +kernel
theorem dX10_isPhaseOf_12 : decode cX10_isPhaseOf 12 = .ok (.iconst 1, 1) := by decide +kernel
theorem dX10_isPhaseOf_13 : decode cX10_isPhaseOf 13 = .ok (.iand, 1) := by decide +kernel
theorem dX10_isPhaseOf_14 : decode cX10_isPhaseOf 14 = .ok (.iconst 1, 1) := by decide +kernel
theorem dX10_isPhaseOf_15 : decode cX10_isPhaseOf 15 = .ok (.if_icmp .ne 7, 3) := by decide +kernel
theorem dX10_isPhaseOf_22 : decode cX10_isPhaseOf 22 = .ok (.iconst 0, 1) := by decide +kernel
theorem dX10_isPhaseOf_23 : decode cX10_isPhaseOf 23 = .ok (.ireturn, 1) := by decide +kernel
theorem dX10_isPhaseOf_18 : decode cX10_isPhaseOf 18 = .ok (.iconst 1, 1) := by decide +kernel
theorem dX10_isPhaseOf_19 : decode cX10_isPhaseOf 19 = .ok (.goto 4, 3) := by decide +kernel
def f_X10_isPhaseOf (d : MoV) (dr : Int32) (dy : Int32) : Int32 := (if (((f_X10_of d dr (0 : Int32)) >>> ((f_X10_phase d dy) &&& 31)) &&& (1 : Int32)) = (1 : Int32) then (1 : Int32) else (0 : Int32))
def ok_X10_isPhaseOf (d : MoV) (dr : Int32) (dy : Int32) : Prop := (ok_X10_of d dr (0 : Int32) ∧ (ok_X10_phase d dy ∧ True))
set_option maxHeartbeats 4000000 in
set_option maxRecDepth 100000 in
theorem c_X10_isPhaseOf (l : Launch) (G : GG) (dh0 : Nat) (dh1 : Nat) (dh2 : Nat) (dh3 : Nat) (dh4 : Nat) (dh5 : Nat) (dh6 : Nat) (dh7 : Nat) (d : MoV) (dr : Int32) (dy : Int32) (hok : ok_X10_isPhaseOf d dr dy) : rMet l yX10_isPhaseOf cX10_isPhaseOf 3 (some .boolean) 2 G (fl [wMo G dh0 dh1 dh2 dh3 dh4 dh5 dh6 dh7 d]) [.ref dh0, .int dr, .int dy] (some (.int (f_X10_isPhaseOf d dr dy))) (narrow .boolean (.int (f_X10_isPhaseOf d dr dy)) = .int (f_X10_isPhaseOf d dr dy)) := by
  refine r_start (by decide +kernel) (Nat.le_of_ble_eq_true rfl) ?_
  intro p e s m below meth c hx hb hr hml hts hown hlk hP hK hST ls hl
  have hS : va_S (fun _ => False) s.heap s.heap [] := va_S.rf
  have hown : s.vm.findClass RX10 = some m.cls := hown
  have hl : lv_has ls 3 [(0, .ref dh0), (1, .int dr), (2, .int dy)] := hl
  have hF : f_X10_isPhaseOf d dr dy = (if (((f_X10_of d dr (0 : Int32)) >>> ((f_X10_phase d dy) &&& 31)) &&& (1 : Int32)) = (1 : Int32) then (1 : Int32) else (0 : Int32)) := rfl
  have hok : (ok_X10_of d dr (0 : Int32) ∧ (ok_X10_phase d dy ∧ True)) := hok
  refine lv_aload_n hx hb dX10_isPhaseOf_0 rfl (lv_at hl 0 rfl) ?_
  refine lv_iload_n hx hb dX10_isPhaseOf_1 rfl (lv_at hl 1 rfl) ?_
  refine lv_iconst (v := (0 : Int32)) hx hb dX10_isPhaseOf_2 (by decide) ?_
  have k_1 := hok.1
  have hok := hok.2
  refine r_V (own := RX10) (v := (some (.int (f_X10_of d dr (0 : Int32))))) (st1 := [.int (f_X10_of d dr (0 : Int32))]) (As := [.int dr, .int (0 : Int32)]) (rest := []) (c_X10_of l G dh0 dh1 dh2 dh3 dh4 dh5 dh6 dh7 d dr (0 : Int32) k_1) ⟨hx, hb, hml, hown, hts⟩ g_X10_78 hdv_X10_of hK hST hS hP [0, 1, 2, 3, 4, 5, 6, 7] rfl (k0 := 0) rfl rfl rfl ⟨Nat.le_of_ble_eq_true rfl, Nat.le_of_ble_eq_true rfl⟩ ⟨Nat.le_of_ble_eq_true rfl, Nat.le_of_ble_eq_true rfl⟩ rfl hl.1 rfl (Nat.le_of_ble_eq_true rfl) dX10_isPhaseOf_3 rfl (fun b_2 => ?_)
  refine lv_aload_n hx hb dX10_isPhaseOf_6 rfl (lv_at hl 0 rfl) ?_
  refine lv_iload_n hx hb dX10_isPhaseOf_7 rfl (lv_at hl 2 rfl) ?_
  have k_3 := hok.1
  have hok := hok.2
  refine r_V (own := RX10) (v := (some (.int (f_X10_phase d dy)))) (st1 := [.int (f_X10_phase d dy), .int (f_X10_of d dr (0 : Int32))]) (As := [.int dy]) (rest := [.int (f_X10_of d dr (0 : Int32))]) (c_X10_phase l G dh0 dh1 dh2 dh3 dh4 dh5 dh6 dh7 d dy k_3) ⟨hx, hb, hml, hown, hts⟩ g_X10_99 hdv_X10_phase hK hST hS hP [0, 1, 2, 3, 4, 5, 6, 7] rfl (k0 := 0) rfl rfl rfl ⟨Nat.le_of_ble_eq_true rfl, Nat.le_of_ble_eq_true rfl⟩ ⟨Nat.le_of_ble_eq_true rfl, Nat.le_of_ble_eq_true rfl⟩ rfl hl.1 rfl (Nat.le_of_ble_eq_true rfl) dX10_isPhaseOf_8 rfl (fun b_4 => ?_)
  refine lv_ishr hx hb dX10_isPhaseOf_11 ?_
  refine lv_iconst (v := (1 : Int32)) hx hb dX10_isPhaseOf_12 (by decide) ?_
  refine lv_iand hx hb dX10_isPhaseOf_13 ?_
  refine lv_iconst (v := (1 : Int32)) hx hb dX10_isPhaseOf_14 (by decide) ?_
  refine lv_icmp_ne (tgt := 22) hx hb dX10_isPhaseOf_15 (by decide) (fun c_5 => ?_) (fun c_5 => ?_)
  · have hF := hF.trans (if_neg c_5)
    refine lv_iconst (v := (0 : Int32)) hx hb dX10_isPhaseOf_22 (by decide) ?_
    exact r_ret hx hb hr hlk rfl (by rw [hF]) (by rw [hF]; exact (rfl : narrow .boolean (.int (0 : Int32)) = .int (0 : Int32))) dX10_isPhaseOf_23
  · have hF := hF.trans (if_pos c_5)
    refine lv_iconst (v := (1 : Int32)) hx hb dX10_isPhaseOf_18 (by decide) ?_
    refine lv_goto (tgt := 23) hx hb dX10_isPhaseOf_19 (by decide) ?_
    exact r_ret hx hb hr hlk rfl (by rw [hF]) (by rw [hF]; exact (rfl : narrow .boolean (.int (1 : Int32)) = .int (1 : Int32))) dX10_isPhaseOf_23
theorem dX10_unlocked_0 : decode cX10_unlocked 0 = .ok (.aload_n 0, 1) := by decide +kernel
theorem dX10_unlocked_1 : decode cX10_unlocked 1 = .ok (.iload_n 1, 1) := by decide +kernel
theorem dX10_unlocked_2 : decode cX10_unlocked 2 = .ok (.iload_n 2, 1) := by decide +kernel
theorem dX10_unlocked_3 : decode cX10_unlocked 3 = .ok (.bipush 24, 2) := by decide +kernel
theorem dX10_unlocked_5 : decode cX10_unlocked 5 = .ok (.idiv, 1) := by decide +kernel
theorem dX10_unlocked_6 : decode cX10_unlocked 6 = .ok (.invokevirtual 89, 3) := by decide +kernel
theorem dX10_unlocked_9 : decode cX10_unlocked 9 = .ok (.istore_n 3, 1) := by decide +kernel
theorem dX10_unlocked_10 : decode cX10_unlocked 10 = .ok (.iload_n 3, 1) := by decide +kernel
theorem dX10_unlocked_11 : decode cX10_unlocked 11 = .ok (.ifCond .lt 19, 3) := by decide +kernel
theorem dX10_unlocked_30 : decode cX10_unlocked 30 = .ok (.aload_n 0, 1) := by decide +kernel
theorem dX10_unlocked_31 : decode cX10_unlocked 31 = .ok (.iload_n 1, 1) := by decide +kernel
theorem dX10_unlocked_32 : decode cX10_unlocked 32 = .ok (.iload_n 2, 1) := by decide +kernel
theorem dX10_unlocked_33 : decode cX10_unlocked 33 = .ok (.bipush 24, 2) := by decide +kernel
theorem dX10_unlocked_35 : decode cX10_unlocked 35 = .ok (.idiv, 1) := by decide +kernel
theorem dX10_unlocked_36 : decode cX10_unlocked 36 = .ok (.invokevirtual 102, 3) := by decide +kernel
theorem u_1855 : Cond.methodLink RX10 102 yX10_isPhaseOf ∈ UW := uw 1855 (by decide +kernel) rfl
theorem u_1857 : Cond.instanceMethod yX10_isPhaseOf ∈ UW := uw 1857 (by decide +kernel) rfl
theorem u_38 : Cond.selects RX10 yX10_isPhaseOf yX10_isPhaseOf ∈ UW := uw 38 (by decide +kernel) rfl
theorem u_1858 : Cond.code yX10_isPhaseOf cX10_isPhaseOf 3 (some .boolean) ∈ UW := uw 1858 (by decide +kernel) rfl
theorem g_X10_102 : GoodIn UW (wsV RX10 102 RX10 yX10_isPhaseOf (wsU yX10_isPhaseOf cX10_isPhaseOf 3 (some .boolean))) := gV u_1855 u_1857 u_38 u_77 u_1858
theorem hdv_X10_isPhaseOf : yX10_isPhaseOf.cls = RX10 ∧ yX10_isPhaseOf.cls ≠ "java/lang/invoke/MethodHandle" ∧ yX10_isPhaseOf.cls ≠ "java/lang/invoke/VarHandle" ∧ (parseMethodDescriptor yX10_isPhaseOf.desc).map (fun d => d.parameters.length) = some 2 := by decide +kernel
theorem dX10_unlocked_39 : decode cX10_unlocked 39 = .ok (.ifCond .eq 19, 3) := by decide +kernel
theorem dX10_unlocked_58 : decode cX10_unlocked 58 = .ok (.iconst 0, 1) := by decide +kernel
theorem dX10_unlocked_59 : decode cX10_unlocked 59 = .ok (.ireturn, 1) := by decide +kernel
theorem dX10_unlocked_42 : decode cX10_unlocked 42 = .ok (.aload_n 0, 1) := by decide +kernel
theorem dX10_unlocked_43 : decode cX10_unlocked 43 = .ok (.iload_n 1, 1) := by decide +kernel
theorem dX10_unlocked_44 : decode cX10_unlocked 44 = .ok (.iload_n 2, 1) := by decide +kernel
theorem dX10_unlocked_45 : decode cX10_unlocked 45 = .ok (.bipush 24, 2) := by decide +kernel
theorem dX10_unlocked_47 : decode cX10_unlocked 47 = .ok (.irem, 1) := by decide +kernel
theorem dX10_unlocked_48 : decode cX10_unlocked 48 = .ok (.invokevirtual 106, 3) := by decide +kernel
theorem u_1863 : Cond.methodLink RX10 106 yX10_isOwnHour ∈ UW := uw 1863 (by decide +kernel) rfl
theorem u_1865 : Cond.instanceMethod yX10_isOwnHour ∈ UW := uw 1865 (by decide +kernel) rfl
theorem u_40 : Cond.selects RX10 yX10_isOwnHour yX10_isOwnHour ∈ UW := uw 40 (by decide +kernel) rfl
theorem u_1866 : Cond.code yX10_isOwnHour cX10_isOwnHour 5 (some .boolean) ∈ UW := uw 1866 (by decide +kernel) rfl
theorem g_X10_106 : GoodIn UW (wsV RX10 106 RX10 yX10_isOwnHour (wsU yX10_isOwnHour cX10_isOwnHour 5 (some .boolean))) := gV u_1863 u_1865 u_40 u_77 u_1866
theorem hdv_X10_isOwnHour : yX10_isOwnHour.cls = RX10 ∧ yX10_isOwnHour.cls ≠ "java/lang/invoke/MethodHandle" ∧ yX10_isOwnHour.cls ≠ "java/lang/invoke/VarHandle" ∧ (parseMethodDescriptor yX10_isOwnHour.desc).map (fun d => d.parameters.length) = some 2 := by decide +kernel
theorem dX10_unlocked_51 : decode cX10_unlocked 51 = .ok (.ifCond .eq 7, 3) := by decide +kernel
theorem dX10_unlocked_54 : decode cX10_unlocked 54 = .ok (.iconst 1, 1) := by decide +kernel
theorem dX10_unlocked_55 : decode cX10_unlocked 55 = .ok (.goto 4, 3) := by decide +kernel
theorem dX10_unlocked_14 : decode cX10_unlocked 14 = .ok (.aload_n 0, 1) := by decide +kernel
theorem dX10_unlocked_15 : decode cX10_unlocked 15 = .ok (.iload_n 3, 1) := by decide +kernel
theorem dX10_unlocked_16 : decode cX10_unlocked 16 = .ok (.iconst 2, 1) := by decide +kernel
theorem dX10_unlocked_17 : decode cX10_unlocked 17 = .ok (.invokevirtual 82, 3) := by decide +kernel
theorem dX10_unlocked_20 : decode cX10_unlocked 20 = .ok (.iconst 1, 1) := by decide +kernel
theorem dX10_unlocked_21 : decode cX10_unlocked 21 = .ok (.if_icmp .ne 7, 3) := by decide +kernel
theorem dX10_unlocked_28 : decode cX10_unlocked 28 = .ok (.iconst 0, 1) := by decide +kernel
theorem dX10_unlocked_29 : decode cX10_unlocked 29 = .ok (.ireturn, 1) := by decide +kernel
theorem dX10_unlocked_24 : decode cX10_unlocked 24 = .ok (.iconst 1, 1) := by decide +kernel
theorem dX10_unlocked_25 : decode cX10_unlocked 25 = .ok (.goto 4, 3) := by decide +kernel
def f_X10_unlocked (d : MoV) (dr : Int32) (tm : Int32) : Int32 := (let y_3 : Int32 := (f_X10_place d dr (tm / (24 : Int32))); (if y_3 < (0 : Int32) then (if (f_X10_isPhaseOf d dr (tm / (24 : Int32))) = (0 : Int32) then (0 : Int32) else (if (f_X10_isOwnHour d dr (tm - tm / (24 : Int32) * (24 : Int32))) = (0 : Int32) then (0 : Int32) else (1 : Int32))) else (if (f_X10_ofException d y_3 (2 : Int32)) = (1 : Int32) then (1 : Int32) else (0 : Int32))))
def ok_X10_unlocked (d : MoV) (dr : Int32) (tm : Int32) : Prop := (ok_X10_place d dr (tm / (24 : Int32)) ∧ (let y_3 : Int32 := (f_X10_place d dr (tm / (24 : Int32))); (if y_3 < (0 : Int32) then (ok_X10_isPhaseOf d dr (tm / (24 : Int32)) ∧ (if (f_X10_isPhaseOf d dr (tm / (24 : Int32))) = (0 : Int32) then True else (ok_X10_isOwnHour d dr (tm - tm / (24 : Int32) * (24 : Int32)) ∧ True))) else (ok_X10_ofException d y_3 (2 : Int32) ∧ True))))
set_option maxHeartbeats 4000000 in
set_option maxRecDepth 100000 in
theorem c_X10_unlocked (l : Launch) (G : GG) (dh0 : Nat) (dh1 : Nat) (dh2 : Nat) (dh3 : Nat) (dh4 : Nat) (dh5 : Nat) (dh6 : Nat) (dh7 : Nat) (d : MoV) (dr : Int32) (tm : Int32) (hok : ok_X10_unlocked d dr tm) : rMet l yX10_unlocked cX10_unlocked 4 (some .boolean) 3 G (fl [wMo G dh0 dh1 dh2 dh3 dh4 dh5 dh6 dh7 d]) [.ref dh0, .int dr, .int tm] (some (.int (f_X10_unlocked d dr tm))) (narrow .boolean (.int (f_X10_unlocked d dr tm)) = .int (f_X10_unlocked d dr tm)) := by
  refine r_start (by decide +kernel) (Nat.le_of_ble_eq_true rfl) ?_
  intro p e s m below meth c hx hb hr hml hts hown hlk hP hK hST ls hl
  have hS : va_S (fun _ => False) s.heap s.heap [] := va_S.rf
  have hown : s.vm.findClass RX10 = some m.cls := hown
  have hl : lv_has ls 4 [(0, .ref dh0), (1, .int dr), (2, .int tm)] := hl
  have hF : f_X10_unlocked d dr tm = (let y_3 : Int32 := (f_X10_place d dr (tm / (24 : Int32))); (if y_3 < (0 : Int32) then (if (f_X10_isPhaseOf d dr (tm / (24 : Int32))) = (0 : Int32) then (0 : Int32) else (if (f_X10_isOwnHour d dr (tm - tm / (24 : Int32) * (24 : Int32))) = (0 : Int32) then (0 : Int32) else (1 : Int32))) else (if (f_X10_ofException d y_3 (2 : Int32)) = (1 : Int32) then (1 : Int32) else (0 : Int32)))) := rfl
  have hok : (ok_X10_place d dr (tm / (24 : Int32)) ∧ (let y_3 : Int32 := (f_X10_place d dr (tm / (24 : Int32))); (if y_3 < (0 : Int32) then (ok_X10_isPhaseOf d dr (tm / (24 : Int32)) ∧ (if (f_X10_isPhaseOf d dr (tm / (24 : Int32))) = (0 : Int32) then True else (ok_X10_isOwnHour d dr (tm - tm / (24 : Int32) * (24 : Int32)) ∧ True))) else (ok_X10_ofException d y_3 (2 : Int32) ∧ True)))) := hok
  refine lv_aload_n hx hb dX10_unlocked_0 rfl (lv_at hl 0 rfl) ?_
  refine lv_iload_n hx hb dX10_unlocked_1 rfl (lv_at hl 1 rfl) ?_
  refine lv_iload_n hx hb dX10_unlocked_2 rfl (lv_at hl 2 rfl) ?_
  refine lv_bipush (v := (24 : Int32)) hx hb dX10_unlocked_3 (by decide) ?_
  refine lv_idiv hx hb dX10_unlocked_5 (by decide) ?_
  have k_1 := hok.1
  have hok := hok.2
  refine r_V (own := RX10) (v := (some (.int (f_X10_place d dr (tm / (24 : Int32)))))) (st1 := [.int (f_X10_place d dr (tm / (24 : Int32)))]) (As := [.int dr, .int (tm / (24 : Int32))]) (rest := []) (c_X10_place l G dh0 dh1 dh2 dh3 dh4 dh5 dh6 dh7 d dr (tm / (24 : Int32)) k_1) ⟨hx, hb, hml, hown, hts⟩ g_X10_89 hdv_X10_place hK hST hS hP [0, 1, 2, 3, 4, 5, 6, 7] rfl (k0 := 0) rfl rfl rfl ⟨Nat.le_of_ble_eq_true rfl, Nat.le_of_ble_eq_true rfl⟩ ⟨Nat.le_of_ble_eq_true rfl, Nat.le_of_ble_eq_true rfl⟩ rfl hl.1 rfl (Nat.le_of_ble_eq_true rfl) dX10_unlocked_6 rfl (fun b_2 => ?_)
  refine lv_topi (fun y_3 ey_3 => ?_)
  have hF : f_X10_unlocked d dr tm = (if y_3 < (0 : Int32) then (if (f_X10_isPhaseOf d dr (tm / (24 : Int32))) = (0 : Int32) then (0 : Int32) else (if (f_X10_isOwnHour d dr (tm - tm / (24 : Int32) * (24 : Int32))) = (0 : Int32) then (0 : Int32) else (1 : Int32))) else (if (f_X10_ofException d y_3 (2 : Int32)) = (1 : Int32) then (1 : Int32) else (0 : Int32))) := by subst ey_3; exact hF
  have hok : (if y_3 < (0 : Int32) then (ok_X10_isPhaseOf d dr (tm / (24 : Int32)) ∧ (if (f_X10_isPhaseOf d dr (tm / (24 : Int32))) = (0 : Int32) then True else (ok_X10_isOwnHour d dr (tm - tm / (24 : Int32) * (24 : Int32)) ∧ True))) else (ok_X10_ofException d y_3 (2 : Int32) ∧ True)) := by subst ey_3; exact hok
  refine lv_istore_n (lv' := [(3, .int y_3), (0, .ref dh0), (1, .int dr), (2, .int tm)]) hx hb dX10_unlocked_9 rfl hl (by decide) rfl (fun ls hl => ?_)
  refine lv_iload_n hx hb dX10_unlocked_10 rfl (lv_at hl 0 rfl) ?_
  refine lv_if_lt (tgt := 30) hx hb dX10_unlocked_11 (by decide) (fun c_4 => ?_) (fun c_4 => ?_)
  · have hF := hF.trans (if_pos c_4)
    have hok := Eq.mp (if_pos c_4) hok
    refine lv_aload_n hx hb dX10_unlocked_30 rfl (lv_at hl 1 rfl) ?_
    refine lv_iload_n hx hb dX10_unlocked_31 rfl (lv_at hl 2 rfl) ?_
    refine lv_iload_n hx hb dX10_unlocked_32 rfl (lv_at hl 3 rfl) ?_
    refine lv_bipush (v := (24 : Int32)) hx hb dX10_unlocked_33 (by decide) ?_
    refine lv_idiv hx hb dX10_unlocked_35 (by decide) ?_
    have k_5 := hok.1
    have hok := hok.2
    refine r_V (own := RX10) (v := (some (.int (f_X10_isPhaseOf d dr (tm / (24 : Int32)))))) (st1 := [.int (f_X10_isPhaseOf d dr (tm / (24 : Int32)))]) (As := [.int dr, .int (tm / (24 : Int32))]) (rest := []) (c_X10_isPhaseOf l G dh0 dh1 dh2 dh3 dh4 dh5 dh6 dh7 d dr (tm / (24 : Int32)) k_5) ⟨hx, hb, hml, hown, hts⟩ g_X10_102 hdv_X10_isPhaseOf hK hST hS hP [0, 1, 2, 3, 4, 5, 6, 7] rfl (k0 := 0) rfl rfl rfl ⟨Nat.le_of_ble_eq_true rfl, Nat.le_of_ble_eq_true rfl⟩ ⟨Nat.le_of_ble_eq_true rfl, Nat.le_of_ble_eq_true rfl⟩ rfl hl.1 rfl (Nat.le_of_ble_eq_true rfl) dX10_unlocked_36 rfl (fun b_6 => ?_)
    refine lv_if_eq (tgt := 58) hx hb dX10_unlocked_39 (by decide) (fun c_7 => ?_) (fun c_7 => ?_)
    · have hF := hF.trans (if_pos c_7)
      have hok := Eq.mp (if_pos c_7) hok
      refine lv_iconst (v := (0 : Int32)) hx hb dX10_unlocked_58 (by decide) ?_
      exact r_ret hx hb hr hlk rfl (by rw [hF]) (by rw [hF]; exact (rfl : narrow .boolean (.int (0 : Int32)) = .int (0 : Int32))) dX10_unlocked_59
    · have hF := hF.trans (if_neg c_7)
      have hok := Eq.mp (if_neg c_7) hok
      refine lv_aload_n hx hb dX10_unlocked_42 rfl (lv_at hl 1 rfl) ?_
      refine lv_iload_n hx hb dX10_unlocked_43 rfl (lv_at hl 2 rfl) ?_
      refine lv_iload_n hx hb dX10_unlocked_44 rfl (lv_at hl 3 rfl) ?_
      refine lv_bipush (v := (24 : Int32)) hx hb dX10_unlocked_45 (by decide) ?_
      refine lv_irem hx hb dX10_unlocked_47 (by decide) ?_
      have k_8 := hok.1
      have hok := hok.2
      refine r_V (own := RX10) (v := (some (.int (f_X10_isOwnHour d dr (tm - tm / (24 : Int32) * (24 : Int32)))))) (st1 := [.int (f_X10_isOwnHour d dr (tm - tm / (24 : Int32) * (24 : Int32)))]) (As := [.int dr, .int (tm - tm / (24 : Int32) * (24 : Int32))]) (rest := []) (c_X10_isOwnHour l G dh0 dh1 dh2 dh3 dh4 dh5 dh6 dh7 d dr (tm - tm / (24 : Int32) * (24 : Int32)) k_8) ⟨hx, hb, hml, hown, hts⟩ g_X10_106 hdv_X10_isOwnHour hK hST hS hP [0, 1, 2, 3, 4, 5, 6, 7] rfl (k0 := 0) rfl rfl rfl ⟨Nat.le_of_ble_eq_true rfl, Nat.le_of_ble_eq_true rfl⟩ ⟨Nat.le_of_ble_eq_true rfl, Nat.le_of_ble_eq_true rfl⟩ rfl hl.1 rfl (Nat.le_of_ble_eq_true rfl) dX10_unlocked_48 rfl (fun b_9 => ?_)
      refine lv_if_eq (tgt := 58) hx hb dX10_unlocked_51 (by decide) (fun c_10 => ?_) (fun c_10 => ?_)
      · have hF := hF.trans (if_pos c_10)
        refine lv_iconst (v := (0 : Int32)) hx hb dX10_unlocked_58 (by decide) ?_
        exact r_ret hx hb hr hlk rfl (by rw [hF]) (by rw [hF]; exact (rfl : narrow .boolean (.int (0 : Int32)) = .int (0 : Int32))) dX10_unlocked_59
      · have hF := hF.trans (if_neg c_10)
        refine lv_iconst (v := (1 : Int32)) hx hb dX10_unlocked_54 (by decide) ?_
        refine lv_goto (tgt := 59) hx hb dX10_unlocked_55 (by decide) ?_
        exact r_ret hx hb hr hlk rfl (by rw [hF]) (by rw [hF]; exact (rfl : narrow .boolean (.int (1 : Int32)) = .int (1 : Int32))) dX10_unlocked_59
  · have hF := hF.trans (if_neg c_4)
    have hok := Eq.mp (if_neg c_4) hok
    refine lv_aload_n hx hb dX10_unlocked_14 rfl (lv_at hl 1 rfl) ?_
    refine lv_iload_n hx hb dX10_unlocked_15 rfl (lv_at hl 0 rfl) ?_
    refine lv_iconst (v := (2 : Int32)) hx hb dX10_unlocked_16 (by decide) ?_
    have k_11 := hok.1
    have hok := hok.2
    refine r_V (own := RX10) (v := (some (.int (f_X10_ofException d y_3 (2 : Int32))))) (st1 := [.int (f_X10_ofException d y_3 (2 : Int32))]) (As := [.int y_3, .int (2 : Int32)]) (rest := []) (c_X10_ofException l G dh0 dh1 dh2 dh3 dh4 dh5 dh6 dh7 d y_3 (2 : Int32) k_11) ⟨hx, hb, hml, hown, hts⟩ g_X10_82 hdv_X10_ofException hK hST hS hP [0, 1, 2, 3, 4, 5, 6, 7] rfl (k0 := 0) rfl rfl rfl ⟨Nat.le_of_ble_eq_true rfl, Nat.le_of_ble_eq_true rfl⟩ ⟨Nat.le_of_ble_eq_true rfl, Nat.le_of_ble_eq_true rfl⟩ rfl hl.1 rfl (Nat.le_of_ble_eq_true rfl) dX10_unlocked_17 rfl (fun b_12 => ?_)
    refine lv_iconst (v := (1 : Int32)) hx hb dX10_unlocked_20 (by decide) ?_
    refine lv_icmp_ne (tgt := 28) hx hb dX10_unlocked_21 (by decide) (fun c_13 => ?_) (fun c_13 => ?_)
    · have hF := hF.trans (if_neg c_13)
      refine lv_iconst (v := (0 : Int32)) hx hb dX10_unlocked_28 (by decide) ?_
      exact r_ret hx hb hr hlk rfl (by rw [hF]) (by rw [hF]; exact (rfl : narrow .boolean (.int (0 : Int32)) = .int (0 : Int32))) dX10_unlocked_29
    · have hF := hF.trans (if_pos c_13)
      refine lv_iconst (v := (1 : Int32)) hx hb dX10_unlocked_24 (by decide) ?_
      refine lv_goto (tgt := 29) hx hb dX10_unlocked_25 (by decide) ?_
      exact r_ret hx hb hr hlk rfl (by rw [hF]) (by rw [hF]; exact (rfl : narrow .boolean (.int (1 : Int32)) = .int (1 : Int32))) dX10_unlocked_29
theorem dX10_addPerson_0 : decode cX10_addPerson 0 = .ok (.aload_n 0, 1) := by decide +kernel
theorem dX10_addPerson_1 : decode cX10_addPerson 1 = .ok (.invokevirtual 56, 3) := by decide +kernel
theorem dX10_addPerson_4 : decode cX10_addPerson 4 = .ok (.aload_n 0, 1) := by decide +kernel
theorem dX10_addPerson_5 : decode cX10_addPerson 5 = .ok (.aload_n 0, 1) := by decide +kernel
theorem dX10_addPerson_6 : decode cX10_addPerson 6 = .ok (.getfield 9, 3) := by decide +kernel
theorem dX10_addPerson_9 : decode cX10_addPerson 9 = .ok (.iconst 3, 1) := by decide +kernel
theorem dX10_addPerson_10 : decode cX10_addPerson 10 = .ok (.iaload, 1) := by decide +kernel
theorem dX10_addPerson_11 : decode cX10_addPerson 11 = .ok (.bipush 6, 2) := by decide +kernel
theorem dX10_addPerson_13 : decode cX10_addPerson 13 = .ok (.if_icmp .ne 7, 3) := by decide +kernel
theorem dX10_addPerson_20 : decode cX10_addPerson 20 = .ok (.iconst 0, 1) := by decide +kernel
theorem dX10_addPerson_21 : decode cX10_addPerson 21 = .ok (.iconst 1, 1) := by decide +kernel
theorem dX10_addPerson_22 : decode cX10_addPerson 22 = .ok (.invokevirtual 63, 3) := by decide +kernel
theorem dX10_addPerson_25 : decode cX10_addPerson 25 = .ok (.ifCond .eq 5, 3) := by decide +kernel
theorem dX10_addPerson_30 : decode cX10_addPerson 30 = .ok (.aload_n 0, 1) := by decide +kernel
theorem dX10_addPerson_31 : decode cX10_addPerson 31 = .ok (.getfield 9, 3) := by decide +kernel
theorem dX10_addPerson_34 : decode cX10_addPerson 34 = .ok (.iconst 3, 1) := by decide +kernel
theorem dX10_addPerson_35 : decode cX10_addPerson 35 = .ok (.dup2, 1) := by decide +kernel
theorem dX10_addPerson_36 : decode cX10_addPerson 36 = .ok (.iaload, 1) := by decide +kernel
theorem dX10_addPerson_37 : decode cX10_addPerson 37 = .ok (.iconst 1, 1) := by decide +kernel
theorem dX10_addPerson_38 : decode cX10_addPerson 38 = .ok (.iadd, 1) := by decide +kernel
theorem dX10_addPerson_39 : decode cX10_addPerson 39 = .ok (.iastore, 1) := by decide +kernel
theorem dX10_addPerson_40 : decode cX10_addPerson 40 = .ok (.aload_n 0, 1) := by decide +kernel
theorem dX10_addPerson_41 : decode cX10_addPerson 41 = .ok (.aload_n 0, 1) := by decide +kernel
theorem dX10_addPerson_42 : decode cX10_addPerson 42 = .ok (.getfield 9, 3) := by decide +kernel
theorem dX10_addPerson_45 : decode cX10_addPerson 45 = .ok (.iconst 3, 1) := by decide +kernel
theorem dX10_addPerson_46 : decode cX10_addPerson 46 = .ok (.iaload, 1) := by decide +kernel
theorem dX10_addPerson_47 : decode cX10_addPerson 47 = .ok (.iconst 1, 1) := by decide +kernel
theorem dX10_addPerson_48 : decode cX10_addPerson 48 = .ok (.isub, 1) := by decide +kernel
theorem dX10_addPerson_49 : decode cX10_addPerson 49 = .ok (.invokevirtual 71, 3) := by decide +kernel
theorem dX10_addPerson_52 : decode cX10_addPerson 52 = .ok (.ireturn, 1) := by decide +kernel
theorem dX10_addPerson_16 : decode cX10_addPerson 16 = .ok (.iconst 1, 1) := by decide +kernel
theorem dX10_addPerson_17 : decode cX10_addPerson 17 = .ok (.goto 4, 3) := by decide +kernel
theorem dX10_addPerson_28 : decode cX10_addPerson 28 = .ok (.iconst 0, 1) := by decide +kernel
theorem dX10_addPerson_29 : decode cX10_addPerson 29 = .ok (.ireturn, 1) := by decide +kernel
def f_X10_addPerson (d : MoV) : Int32 × MoV := (let u_3 : MoV := (f_X10_keeps d); (if (u_3.1 (3 : Int32).toNatClampNeg) = (6 : Int32) then (let u_12 : MoV := (f_X10_isThrown u_3 (1 : Int32) (1 : Int32)); ((0 : Int32), u_12)) else (let u_6 : MoV := (f_X10_isThrown u_3 (0 : Int32) (1 : Int32)); (let u_10 : Int32 × MoV := (f_X10_ends (mo0 u_6 (upd u_6.1 (3 : Int32).toNatClampNeg ((u_6.1 (3 : Int32).toNatClampNeg) + (1 : Int32)))) (((upd u_6.1 (3 : Int32).toNatClampNeg ((u_6.1 (3 : Int32).toNatClampNeg) + (1 : Int32))) (3 : Int32).toNatClampNeg) - (1 : Int32))); (u_10.1, u_10.2)))))
def ok_X10_addPerson (d : MoV) : Prop := (ok_X10_keeps d ∧ (let u_3 : MoV := (f_X10_keeps d); (if (u_3.1 (3 : Int32).toNatClampNeg) = (6 : Int32) then True else (let u_6 : MoV := (f_X10_isThrown u_3 (0 : Int32) (1 : Int32)); (ok_X10_ends (mo0 u_6 (upd u_6.1 (3 : Int32).toNatClampNeg ((u_6.1 (3 : Int32).toNatClampNeg) + (1 : Int32)))) (((upd u_6.1 (3 : Int32).toNatClampNeg ((u_6.1 (3 : Int32).toNatClampNeg) + (1 : Int32))) (3 : Int32).toNatClampNeg) - (1 : Int32)) ∧ True)))))
set_option maxHeartbeats 4000000 in
set_option maxRecDepth 100000 in
theorem c_X10_addPerson (l : Launch) (G : GG) (dh0 : Nat) (dh1 : Nat) (dh2 : Nat) (dh3 : Nat) (dh4 : Nat) (dh5 : Nat) (dh6 : Nat) (dh7 : Nat) (sz : Nat) (d : MoV) (hok : ok_X10_addPerson d) : wMet l yX10_addPerson cX10_addPerson 1 (some .int) 3 0 0 G (fl [wMo G dh0 dh1 dh2 dh3 dh4 dh5 dh6 dh7 d]) [.ref dh0] sz (fun u : Int32 × MoV => some (.int u.1)) (fun u : Int32 × MoV => u = f_X10_addPerson d) (fun u : Int32 × MoV => fl [wMo G dh0 dh1 dh2 dh3 dh4 dh5 dh6 dh7 u.2]) := by
  refine w_start (by decide +kernel) (Nat.le_of_ble_eq_true rfl) ?_
  intro p e s m below meth c A hx hb hr hml hts hown hlk hin hP hD hA hK hST ls hl
  have hS : va_S A s.heap s.heap [] := va_S.rf
  have hown : s.vm.findClass RX10 = some m.cls := hown
  have hl : lv_has ls 1 [(0, .ref dh0)] := hl
  have hF : f_X10_addPerson d = (let u_3 : MoV := (f_X10_keeps d); (if (u_3.1 (3 : Int32).toNatClampNeg) = (6 : Int32) then (let u_12 : MoV := (f_X10_isThrown u_3 (1 : Int32) (1 : Int32)); ((0 : Int32), u_12)) else (let u_6 : MoV := (f_X10_isThrown u_3 (0 : Int32) (1 : Int32)); (let u_10 : Int32 × MoV := (f_X10_ends (mo0 u_6 (upd u_6.1 (3 : Int32).toNatClampNeg ((u_6.1 (3 : Int32).toNatClampNeg) + (1 : Int32)))) (((upd u_6.1 (3 : Int32).toNatClampNeg ((u_6.1 (3 : Int32).toNatClampNeg) + (1 : Int32))) (3 : Int32).toNatClampNeg) - (1 : Int32))); (u_10.1, u_10.2))))) := rfl
  have hok : (ok_X10_keeps d ∧ (let u_3 : MoV := (f_X10_keeps d); (if (u_3.1 (3 : Int32).toNatClampNeg) = (6 : Int32) then True else (let u_6 : MoV := (f_X10_isThrown u_3 (0 : Int32) (1 : Int32)); (ok_X10_ends (mo0 u_6 (upd u_6.1 (3 : Int32).toNatClampNeg ((u_6.1 (3 : Int32).toNatClampNeg) + (1 : Int32)))) (((upd u_6.1 (3 : Int32).toNatClampNeg ((u_6.1 (3 : Int32).toNatClampNeg) + (1 : Int32))) (3 : Int32).toNatClampNeg) - (1 : Int32)) ∧ True))))) := hok
  refine lv_aload_n hx hb dX10_addPerson_0 rfl (lv_at hl 0 rfl) ?_
  have k_1 := hok.1
  have hok := hok.2
  refine w_V (own := RX10) (cs := [wMo G dh0 dh1 dh2 dh3 dh4 dh5 dh6 dh7 d]) (rs := []) (As := []) (rest := []) (c_X10_keeps l G dh0 dh1 dh2 dh3 dh4 dh5 dh6 dh7 s.heap.size d k_1) ⟨hx, hb, hml, hown, hts⟩ g_X10_56 hdv_X10_keeps hK hST hS hP hD hA [0] [] rfl rfl rfl (k0 := 0) rfl rfl rfl ⟨Nat.le_of_ble_eq_true rfl, Nat.le_of_ble_eq_true rfl⟩ ⟨Nat.le_of_ble_eq_true rfl, Nat.le_of_ble_eq_true rfl⟩ rfl hl.1 rfl (Nat.le_of_ble_eq_true rfl) dX10_addPerson_1 (fun u_3 H locs huu hP hD hS => ?_)
  have eu_3 := huu
  have hP : va_P G.1 vwCl (fl [wMo G dh0 dh1 dh2 dh3 dh4 dh5 dh6 dh7 u_3]) H := hP
  have hD : va_D A (fl [wMo G dh0 dh1 dh2 dh3 dh4 dh5 dh6 dh7 u_3]) := hD
  refine W.eq (g2 := F0 m 4 ls []) rfl ?_
  have hF : f_X10_addPerson d = (if (u_3.1 (3 : Int32).toNatClampNeg) = (6 : Int32) then (let u_12 : MoV := (f_X10_isThrown u_3 (1 : Int32) (1 : Int32)); ((0 : Int32), u_12)) else (let u_6 : MoV := (f_X10_isThrown u_3 (0 : Int32) (1 : Int32)); (let u_10 : Int32 × MoV := (f_X10_ends (mo0 u_6 (upd u_6.1 (3 : Int32).toNatClampNeg ((u_6.1 (3 : Int32).toNatClampNeg) + (1 : Int32)))) (((upd u_6.1 (3 : Int32).toNatClampNeg ((u_6.1 (3 : Int32).toNatClampNeg) + (1 : Int32))) (3 : Int32).toNatClampNeg) - (1 : Int32))); (u_10.1, u_10.2)))) := by subst eu_3; exact hF
  have hok : (if (u_3.1 (3 : Int32).toNatClampNeg) = (6 : Int32) then True else (let u_6 : MoV := (f_X10_isThrown u_3 (0 : Int32) (1 : Int32)); (ok_X10_ends (mo0 u_6 (upd u_6.1 (3 : Int32).toNatClampNeg ((u_6.1 (3 : Int32).toNatClampNeg) + (1 : Int32)))) (((upd u_6.1 (3 : Int32).toNatClampNeg ((u_6.1 (3 : Int32).toNatClampNeg) + (1 : Int32))) (3 : Int32).toNatClampNeg) - (1 : Int32)) ∧ True))) := by subst eu_3; exact hok
  refine lv_aload_n hx hb dX10_addPerson_4 rfl (lv_at hl 0 rfl) ?_
  refine lv_aload_n hx hb dX10_addPerson_5 rfl (lv_at hl 0 rfl) ?_
  refine va_get (D := G.1) (ci := 12) (v := .ref dh1) (C := RX10) (T := TX10) (N := 17) hx hb hts uws_X10 hown hK hP 0 rfl rfl 0 (by decide) (hts _ u_1680) (fun _ h9 => h9) rfl dX10_addPerson_6 ?_
  refine lv_iconst (v := (3 : Int32)) hx hb dX10_addPerson_9 (by decide) ?_
  refine va_iald hx hb hK hP 1 0 rfl rfl (vp_in_nI (n := 3) (by decide) (by decide)) dX10_addPerson_10 ?_
  refine lv_bipush (v := (6 : Int32)) hx hb dX10_addPerson_11 (by decide) ?_
  refine lv_icmp_ne (tgt := 20) hx hb dX10_addPerson_13 (by decide) (fun c_4 => ?_) (fun c_4 => ?_)
  · have hF := hF.trans (if_neg c_4)
    have hok := Eq.mp (if_neg c_4) hok
    refine lv_iconst (v := (0 : Int32)) hx hb dX10_addPerson_20 (by decide) ?_
    refine lv_iconst (v := (1 : Int32)) hx hb dX10_addPerson_21 (by decide) ?_
    refine w_V (own := RX10) (cs := [wMo G dh0 dh1 dh2 dh3 dh4 dh5 dh6 dh7 u_3]) (rs := []) (As := [.int (0 : Int32), .int (1 : Int32)]) (rest := []) (c_X10_isThrown l G dh0 dh1 dh2 dh3 dh4 dh5 dh6 dh7 H.size u_3 (0 : Int32) (1 : Int32) (rfl)) ⟨hx, hb, hml, hown, hts⟩ g_X10_63 hdv_X10_isThrown hK hST hS hP hD hA [0] [] rfl rfl rfl (k0 := 0) rfl rfl rfl ⟨Nat.le_of_ble_eq_true rfl, Nat.le_of_ble_eq_true rfl⟩ ⟨Nat.le_of_ble_eq_true rfl, Nat.le_of_ble_eq_true rfl⟩ rfl hl.1 rfl (Nat.le_of_ble_eq_true rfl) dX10_addPerson_22 (fun u_6 H locs huu hP hD hS => ?_)
    have eu_6 := huu
    have hP : va_P G.1 vwCl (fl [wMo G dh0 dh1 dh2 dh3 dh4 dh5 dh6 dh7 u_6]) H := hP
    have hD : va_D A (fl [wMo G dh0 dh1 dh2 dh3 dh4 dh5 dh6 dh7 u_6]) := hD
    refine W.eq (g2 := F0 m 25 ls [.int (0 : Int32)]) rfl ?_
    have hF : f_X10_addPerson d = (let u_10 : Int32 × MoV := (f_X10_ends (mo0 u_6 (upd u_6.1 (3 : Int32).toNatClampNeg ((u_6.1 (3 : Int32).toNatClampNeg) + (1 : Int32)))) (((upd u_6.1 (3 : Int32).toNatClampNeg ((u_6.1 (3 : Int32).toNatClampNeg) + (1 : Int32))) (3 : Int32).toNatClampNeg) - (1 : Int32))); (u_10.1, u_10.2)) := by subst eu_6; exact hF
    have hok : (ok_X10_ends (mo0 u_6 (upd u_6.1 (3 : Int32).toNatClampNeg ((u_6.1 (3 : Int32).toNatClampNeg) + (1 : Int32)))) (((upd u_6.1 (3 : Int32).toNatClampNeg ((u_6.1 (3 : Int32).toNatClampNeg) + (1 : Int32))) (3 : Int32).toNatClampNeg) - (1 : Int32)) ∧ True) := by subst eu_6; exact hok
    refine lv_if_eq (tgt := 30) hx hb dX10_addPerson_25 (by decide) (fun c_7 => ?_) (fun c_7 => ?_)
    · refine lv_aload_n hx hb dX10_addPerson_30 rfl (lv_at hl 0 rfl) ?_
      refine va_get (D := G.1) (ci := 12) (v := .ref dh1) (C := RX10) (T := TX10) (N := 17) hx hb hts uws_X10 hown hK hP 0 rfl rfl 0 (by decide) (hts _ u_1680) (fun _ h9 => h9) rfl dX10_addPerson_31 ?_
      refine lv_iconst (v := (3 : Int32)) hx hb dX10_addPerson_34 (by decide) ?_
      refine lv_dup2_11 hx hb dX10_addPerson_35 rfl rfl ?_
      refine va_iald hx hb hK hP 1 0 rfl rfl (vp_in_nI (n := 3) (by decide) (by decide)) dX10_addPerson_36 ?_
      refine lv_iconst (v := (1 : Int32)) hx hb dX10_addPerson_37 (by decide) ?_
      refine lv_iadd hx hb dX10_addPerson_38 ?_
      refine va_iast hx hb hK hP hD hS 1 0 rfl rfl (vp_in_nI (n := 3) (by decide) (by decide)) dX10_addPerson_39 (fun H locs hP hD hS => ?_)
      have hP : va_P G.1 vwCl (fl [wMo G dh0 dh1 dh2 dh3 dh4 dh5 dh6 dh7 (mo0 u_6 (upd u_6.1 (3 : Int32).toNatClampNeg ((u_6.1 (3 : Int32).toNatClampNeg) + (1 : Int32))))]) H := hP
      have hD : va_D A (fl [wMo G dh0 dh1 dh2 dh3 dh4 dh5 dh6 dh7 (mo0 u_6 (upd u_6.1 (3 : Int32).toNatClampNeg ((u_6.1 (3 : Int32).toNatClampNeg) + (1 : Int32))))]) := hD
      refine lv_aload_n hx hb dX10_addPerson_40 rfl (lv_at hl 0 rfl) ?_
      refine lv_aload_n hx hb dX10_addPerson_41 rfl (lv_at hl 0 rfl) ?_
      refine va_get (D := G.1) (ci := 12) (v := .ref dh1) (C := RX10) (T := TX10) (N := 17) hx hb hts uws_X10 hown hK hP 0 rfl rfl 0 (by decide) (hts _ u_1680) (fun _ h9 => h9) rfl dX10_addPerson_42 ?_
      refine lv_iconst (v := (3 : Int32)) hx hb dX10_addPerson_45 (by decide) ?_
      refine va_iald hx hb hK hP 1 0 rfl rfl (vp_in_nI (n := 3) (by decide) (by decide)) dX10_addPerson_46 ?_
      refine lv_iconst (v := (1 : Int32)) hx hb dX10_addPerson_47 (by decide) ?_
      refine lv_isub hx hb dX10_addPerson_48 ?_
      have k_8 := hok.1
      have hok := hok.2
      refine w_V (own := RX10) (cs := [wMo G dh0 dh1 dh2 dh3 dh4 dh5 dh6 dh7 (mo0 u_6 (upd u_6.1 (3 : Int32).toNatClampNeg ((u_6.1 (3 : Int32).toNatClampNeg) + (1 : Int32))))]) (rs := []) (As := [.int (((upd u_6.1 (3 : Int32).toNatClampNeg ((u_6.1 (3 : Int32).toNatClampNeg) + (1 : Int32))) (3 : Int32).toNatClampNeg) - (1 : Int32))]) (rest := []) (c_X10_ends l G dh0 dh1 dh2 dh3 dh4 dh5 dh6 dh7 H.size (mo0 u_6 (upd u_6.1 (3 : Int32).toNatClampNeg ((u_6.1 (3 : Int32).toNatClampNeg) + (1 : Int32)))) (((upd u_6.1 (3 : Int32).toNatClampNeg ((u_6.1 (3 : Int32).toNatClampNeg) + (1 : Int32))) (3 : Int32).toNatClampNeg) - (1 : Int32)) k_8) ⟨hx, hb, hml, hown, hts⟩ g_X10_71 hdv_X10_ends hK hST hS hP hD hA [0] [] rfl rfl rfl (k0 := 0) rfl rfl rfl ⟨Nat.le_of_ble_eq_true rfl, Nat.le_of_ble_eq_true rfl⟩ ⟨Nat.le_of_ble_eq_true rfl, Nat.le_of_ble_eq_true rfl⟩ rfl hl.1 rfl (Nat.le_of_ble_eq_true rfl) dX10_addPerson_49 (fun u_10 H locs huu hP hD hS => ?_)
      have eu_10 := huu
      have hP : va_P G.1 vwCl (fl [wMo G dh0 dh1 dh2 dh3 dh4 dh5 dh6 dh7 u_10.2]) H := hP
      have hD : va_D A (fl [wMo G dh0 dh1 dh2 dh3 dh4 dh5 dh6 dh7 u_10.2]) := hD
      refine W.eq (g2 := F0 m 52 ls [.int u_10.1]) rfl ?_
      have hF : f_X10_addPerson d = (u_10.1, u_10.2) := by subst eu_10; exact hF
      exact w_ret (u := (u_10.1, u_10.2)) hx hb hr hlk rfl hS rfl hF.symm hP hD (Nat.le_of_ble_eq_true rfl) (Nat.le_of_ble_eq_true rfl) dX10_addPerson_52
    · exact absurd c_7 (by decide)
  · have hF := hF.trans (if_pos c_4)
    have hok := Eq.mp (if_pos c_4) hok
    refine lv_iconst (v := (1 : Int32)) hx hb dX10_addPerson_16 (by decide) ?_
    refine lv_goto (tgt := 21) hx hb dX10_addPerson_17 (by decide) ?_
    refine lv_iconst (v := (1 : Int32)) hx hb dX10_addPerson_21 (by decide) ?_
    refine w_V (own := RX10) (cs := [wMo G dh0 dh1 dh2 dh3 dh4 dh5 dh6 dh7 u_3]) (rs := []) (As := [.int (1 : Int32), .int (1 : Int32)]) (rest := []) (c_X10_isThrown l G dh0 dh1 dh2 dh3 dh4 dh5 dh6 dh7 H.size u_3 (1 : Int32) (1 : Int32) (rfl)) ⟨hx, hb, hml, hown, hts⟩ g_X10_63 hdv_X10_isThrown hK hST hS hP hD hA [0] [] rfl rfl rfl (k0 := 0) rfl rfl rfl ⟨Nat.le_of_ble_eq_true rfl, Nat.le_of_ble_eq_true rfl⟩ ⟨Nat.le_of_ble_eq_true rfl, Nat.le_of_ble_eq_true rfl⟩ rfl hl.1 rfl (Nat.le_of_ble_eq_true rfl) dX10_addPerson_22 (fun u_12 H locs huu hP hD hS => ?_)
    have eu_12 := huu
    have hP : va_P G.1 vwCl (fl [wMo G dh0 dh1 dh2 dh3 dh4 dh5 dh6 dh7 u_12]) H := hP
    have hD : va_D A (fl [wMo G dh0 dh1 dh2 dh3 dh4 dh5 dh6 dh7 u_12]) := hD
    refine W.eq (g2 := F0 m 25 ls [.int (1 : Int32)]) rfl ?_
    have hF : f_X10_addPerson d = ((0 : Int32), u_12) := by subst eu_12; exact hF
    refine lv_if_eq (tgt := 30) hx hb dX10_addPerson_25 (by decide) (fun c_13 => ?_) (fun c_13 => ?_)
    · exact absurd c_13 (by decide)
    · refine lv_iconst (v := (0 : Int32)) hx hb dX10_addPerson_28 (by decide) ?_
      exact w_ret (u := ((0 : Int32), u_12)) hx hb hr hlk rfl hS rfl hF.symm hP hD (Nat.le_of_ble_eq_true rfl) (Nat.le_of_ble_eq_true rfl) dX10_addPerson_29
theorem dX10_has_0 : decode cX10_has 0 = .ok (.iload_n 2, 1) := by decide +kernel
theorem dX10_has_1 : decode cX10_has 1 = .ok (.invokestatic 52, 3) := by decide +kernel
theorem dX10_has_4 : decode cX10_has 4 = .ok (.ifCond .eq 21, 3) := by decide +kernel
theorem dX10_has_25 : decode cX10_has 25 = .ok (.iconst 0, 1) := by decide +kernel
theorem dX10_has_26 : decode cX10_has 26 = .ok (.ireturn, 1) := by decide +kernel
theorem dX10_has_7 : decode cX10_has 7 = .ok (.aload_n 0, 1) := by decide +kernel
theorem dX10_has_8 : decode cX10_has 8 = .ok (.iload_n 1, 1) := by decide +kernel
theorem dX10_has_9 : decode cX10_has 9 = .ok (.iconst 0, 1) := by decide +kernel
theorem dX10_has_10 : decode cX10_has 10 = .ok (.invokevirtual 109, 3) := by decide +kernel
theorem u_1828 : Cond.methodLink RX10 109 yX10_ofPerson ∈ UW := uw 1828 (by decide +kernel) rfl
theorem u_1830 : Cond.instanceMethod yX10_ofPerson ∈ UW := uw 1830 (by decide +kernel) rfl
theorem u_34 : Cond.selects RX10 yX10_ofPerson yX10_ofPerson ∈ UW := uw 34 (by decide +kernel) rfl
theorem u_1831 : Cond.code yX10_ofPerson cX10_ofPerson 3 (some .int) ∈ UW := uw 1831 (by decide +kernel) rfl
theorem g_X10_109 : GoodIn UW (wsV RX10 109 RX10 yX10_ofPerson (wsU yX10_ofPerson cX10_ofPerson 3 (some .int))) := gV u_1828 u_1830 u_34 u_77 u_1831
theorem hdv_X10_ofPerson : yX10_ofPerson.cls = RX10 ∧ yX10_ofPerson.cls ≠ "java/lang/invoke/MethodHandle" ∧ yX10_ofPerson.cls ≠ "java/lang/invoke/VarHandle" ∧ (parseMethodDescriptor yX10_ofPerson.desc).map (fun d => d.parameters.length) = some 2 := by decide +kernel
theorem dX10_has_13 : decode cX10_has 13 = .ok (.iload_n 2, 1) := by decide +kernel
theorem dX10_has_14 : decode cX10_has 14 = .ok (.ishr, 1) := by decide +kernel
theorem dX10_has_15 : decode cX10_has 15 = .ok (.iconst 1, 1) := by decide +kernel
theorem dX10_has_16 : decode cX10_has 16 = .ok (.iand, 1) := by decide +kernel
theorem dX10_has_17 : decode cX10_has 17 = .ok (.iconst 1, 1) := by decide +kernel
theorem dX10_has_18 : decode cX10_has 18 = .ok (.if_icmp .ne 7, 3) := by decide +kernel
theorem dX10_has_21 : decode cX10_has 21 = .ok (.iconst 1, 1) := by decide +kernel
theorem dX10_has_22 : decode cX10_has 22 = .ok (.goto 4, 3) := by decide +kernel
def f_X10_has (d : MoV) (ps : Int32) (k : Int32) : Int32 := (if (f_X10_isKey k) = (0 : Int32) then (0 : Int32) else (if (((f_X10_ofPerson d ps (0 : Int32)) >>> (k &&& 31)) &&& (1 : Int32)) = (1 : Int32) then (1 : Int32) else (0 : Int32)))
def ok_X10_has (d : MoV) (ps : Int32) (k : Int32) : Prop := (if (f_X10_isKey k) = (0 : Int32) then True else (ok_X10_ofPerson d ps (0 : Int32) ∧ True))
set_option maxHeartbeats 4000000 in
set_option maxRecDepth 100000 in
theorem c_X10_has (l : Launch) (G : GG) (dh0 : Nat) (dh1 : Nat) (dh2 : Nat) (dh3 : Nat) (dh4 : Nat) (dh5 : Nat) (dh6 : Nat) (dh7 : Nat) (d : MoV) (ps : Int32) (k : Int32) (hok : ok_X10_has d ps k) : rMet l yX10_has cX10_has 3 (some .boolean) 3 G (fl [wMo G dh0 dh1 dh2 dh3 dh4 dh5 dh6 dh7 d]) [.ref dh0, .int ps, .int k] (some (.int (f_X10_has d ps k))) (narrow .boolean (.int (f_X10_has d ps k)) = .int (f_X10_has d ps k)) := by
  refine r_start (by decide +kernel) (Nat.le_of_ble_eq_true rfl) ?_
  intro p e s m below meth c hx hb hr hml hts hown hlk hP hK hST ls hl
  have hS : va_S (fun _ => False) s.heap s.heap [] := va_S.rf
  have hown : s.vm.findClass RX10 = some m.cls := hown
  have hl : lv_has ls 3 [(0, .ref dh0), (1, .int ps), (2, .int k)] := hl
  have hF : f_X10_has d ps k = (if (f_X10_isKey k) = (0 : Int32) then (0 : Int32) else (if (((f_X10_ofPerson d ps (0 : Int32)) >>> (k &&& 31)) &&& (1 : Int32)) = (1 : Int32) then (1 : Int32) else (0 : Int32))) := rfl
  have hok : (if (f_X10_isKey k) = (0 : Int32) then True else (ok_X10_ofPerson d ps (0 : Int32) ∧ True)) := hok
  refine lv_iload_n hx hb dX10_has_0 rfl (lv_at hl 2 rfl) ?_
  refine r_S (own := RX10) (v := (some (.int (f_X10_isKey k)))) (st1 := [.int (f_X10_isKey k)]) (As := [.int k]) (rest := []) (c_X10_isKey l G k) ⟨hx, hb, hml, hown, hts⟩ g_X10_52 hds_X10_isKey hK hST hS hP [] rfl ⟨Nat.le_of_ble_eq_true rfl, Nat.le_of_ble_eq_true rfl⟩ ⟨Nat.le_of_ble_eq_true rfl, Nat.le_of_ble_eq_true rfl⟩ rfl hl.1 rfl (Nat.le_of_ble_eq_true rfl) dX10_has_1 rfl (fun b_1 => ?_)
  refine lv_if_eq (tgt := 25) hx hb dX10_has_4 (by decide) (fun c_2 => ?_) (fun c_2 => ?_)
  · have hF := hF.trans (if_pos c_2)
    have hok := Eq.mp (if_pos c_2) hok
    refine lv_iconst (v := (0 : Int32)) hx hb dX10_has_25 (by decide) ?_
    exact r_ret hx hb hr hlk rfl (by rw [hF]) (by rw [hF]; exact (rfl : narrow .boolean (.int (0 : Int32)) = .int (0 : Int32))) dX10_has_26
  · have hF := hF.trans (if_neg c_2)
    have hok := Eq.mp (if_neg c_2) hok
    refine lv_aload_n hx hb dX10_has_7 rfl (lv_at hl 0 rfl) ?_
    refine lv_iload_n hx hb dX10_has_8 rfl (lv_at hl 1 rfl) ?_
    refine lv_iconst (v := (0 : Int32)) hx hb dX10_has_9 (by decide) ?_
    have k_3 := hok.1
    have hok := hok.2
    refine r_V (own := RX10) (v := (some (.int (f_X10_ofPerson d ps (0 : Int32))))) (st1 := [.int (f_X10_ofPerson d ps (0 : Int32))]) (As := [.int ps, .int (0 : Int32)]) (rest := []) (c_X10_ofPerson l G dh0 dh1 dh2 dh3 dh4 dh5 dh6 dh7 d ps (0 : Int32) k_3) ⟨hx, hb, hml, hown, hts⟩ g_X10_109 hdv_X10_ofPerson hK hST hS hP [0, 1, 2, 3, 4, 5, 6, 7] rfl (k0 := 0) rfl rfl rfl ⟨Nat.le_of_ble_eq_true rfl, Nat.le_of_ble_eq_true rfl⟩ ⟨Nat.le_of_ble_eq_true rfl, Nat.le_of_ble_eq_true rfl⟩ rfl hl.1 rfl (Nat.le_of_ble_eq_true rfl) dX10_has_10 rfl (fun b_4 => ?_)
    refine lv_iload_n hx hb dX10_has_13 rfl (lv_at hl 2 rfl) ?_
    refine lv_ishr hx hb dX10_has_14 ?_
    refine lv_iconst (v := (1 : Int32)) hx hb dX10_has_15 (by decide) ?_
    refine lv_iand hx hb dX10_has_16 ?_
    refine lv_iconst (v := (1 : Int32)) hx hb dX10_has_17 (by decide) ?_
    refine lv_icmp_ne (tgt := 25) hx hb dX10_has_18 (by decide) (fun c_5 => ?_) (fun c_5 => ?_)
    · have hF := hF.trans (if_neg c_5)
      refine lv_iconst (v := (0 : Int32)) hx hb dX10_has_25 (by decide) ?_
      exact r_ret hx hb hr hlk rfl (by rw [hF]) (by rw [hF]; exact (rfl : narrow .boolean (.int (0 : Int32)) = .int (0 : Int32))) dX10_has_26
    · have hF := hF.trans (if_pos c_5)
      refine lv_iconst (v := (1 : Int32)) hx hb dX10_has_21 (by decide) ?_
      refine lv_goto (tgt := 26) hx hb dX10_has_22 (by decide) ?_
      exact r_ret hx hb hr hlk rfl (by rw [hF]) (by rw [hF]; exact (rfl : narrow .boolean (.int (1 : Int32)) = .int (1 : Int32))) dX10_has_26
theorem dX10_bits_0 : decode cX10_bits 0 = .ok (.iconst 0, 1) := by decide +kernel
theorem dX10_bits_1 : decode cX10_bits 1 = .ok (.istore_n 1, 1) := by decide +kernel
theorem dX10_bits_2 : decode cX10_bits 2 = .ok (.iconst 0, 1) := by decide +kernel
theorem dX10_bits_3 : decode cX10_bits 3 = .ok (.istore_n 2, 1) := by decide +kernel
theorem dX10_bits_4 : decode cX10_bits 4 = .ok (.iload_n 2, 1) := by decide +kernel
theorem dX10_bits_5 : decode cX10_bits 5 = .ok (.bipush 8, 2) := by decide +kernel
theorem dX10_bits_7 : decode cX10_bits 7 = .ok (.if_icmp .ge 17, 3) := by decide +kernel
theorem dX10_bits_24 : decode cX10_bits 24 = .ok (.iload_n 1, 1) := by decide +kernel
theorem dX10_bits_25 : decode cX10_bits 25 = .ok (.ireturn, 1) := by decide +kernel
theorem dX10_bits_10 : decode cX10_bits 10 = .ok (.iload_n 1, 1) := by decide +kernel
theorem dX10_bits_11 : decode cX10_bits 11 = .ok (.iload_n 0, 1) := by decide +kernel
theorem dX10_bits_12 : decode cX10_bits 12 = .ok (.iload_n 2, 1) := by decide +kernel
theorem dX10_bits_13 : decode cX10_bits 13 = .ok (.ishr, 1) := by decide +kernel
theorem dX10_bits_14 : decode cX10_bits 14 = .ok (.iconst 1, 1) := by decide +kernel
theorem dX10_bits_15 : decode cX10_bits 15 = .ok (.iand, 1) := by decide +kernel
theorem dX10_bits_16 : decode cX10_bits 16 = .ok (.iadd, 1) := by decide +kernel
theorem dX10_bits_17 : decode cX10_bits 17 = .ok (.istore_n 1, 1) := by decide +kernel
theorem dX10_bits_18 : decode cX10_bits 18 = .ok (.iinc 2 1, 3) := by decide +kernel
theorem dX10_bits_21 : decode cX10_bits 21 = .ok (.goto (-17), 3) := by decide +kernel
def lp_X10_bits_4 (x : Int32) : Nat → Int32 → Int32 → Int32
  | 0, _, _ => 0
  | n + 1, x2, x1 => (if (8 : Int32) ≤ x2 then x1 else (lp_X10_bits_4 x n (x2 + 1) (x1 + ((x >>> (x2 &&& 31)) &&& (1 : Int32)))))
def f_X10_bits (x : Int32) : Int32 := (lp_X10_bits_4 x ((((8 : Int32)).toInt - ((0 : Int32)).toInt).toNat + 1) (0 : Int32) (0 : Int32))
set_option maxHeartbeats 4000000 in
set_option maxRecDepth 100000 in
theorem c_X10_bits (l : Launch) (G : GG)  (x : Int32) : rMet l yX10_bits cX10_bits 3 (some .int) 1 G (fl []) [.int x] (some (.int (f_X10_bits x))) (True) := by
  refine r_start (by decide +kernel) (Nat.le_of_ble_eq_true rfl) ?_
  intro p e s m below meth c hx hb hr hml hts hown hlk hP hK hST ls hl
  have hS : va_S (fun _ => False) s.heap s.heap [] := va_S.rf
  have hown : s.vm.findClass RX10 = some m.cls := hown
  have hl : lv_has ls 3 [(0, .int x)] := hl
  have hF : f_X10_bits x = (lp_X10_bits_4 x ((((8 : Int32)).toInt - ((0 : Int32)).toInt).toNat + 1) (0 : Int32) (0 : Int32)) := rfl
  refine lv_iconst (v := (0 : Int32)) hx hb dX10_bits_0 (by decide) ?_
  refine lv_istore_n (lv' := [(1, .int (0 : Int32)), (0, .int x)]) hx hb dX10_bits_1 rfl hl (by decide) rfl (fun ls hl => ?_)
  refine lv_iconst (v := (0 : Int32)) hx hb dX10_bits_2 (by decide) ?_
  refine lv_istore_n (lv' := [(2, .int (0 : Int32)), (1, .int (0 : Int32)), (0, .int x)]) hx hb dX10_bits_3 rfl hl (by decide) rfl (fun ls hl => ?_)
  have L4 : ∀ (n : Nat) (x2 : Int32) (x1 : Int32) (ls : Array Slot), lv_has ls 3 [(2, .int x2), (1, .int x1), (0, .int x)] → (upI x2 (8 : Int32) n) → f_X10_bits x = lp_X10_bits_4 x n x2 x1 → W p l e (rmd 1 0 0) s m ([.int x] : List Value).toArray below meth c s.heap [] 0 0 (MQ below (rQ (some (.int (f_X10_bits x))) (True)) ([.int x] : List Value).toArray s 0 0 (fun _ => False)) (F0 m 4 ls []) := by
    intro n
    induction n with
    | zero => intro x2 x1 ls hl hu; exact absurd hu (upI_0)
    | succ n ih =>
      intro x2 x1 ls hl hu hF
      have hF : f_X10_bits x = (if (8 : Int32) ≤ x2 then x1 else (lp_X10_bits_4 x n (x2 + 1) (x1 + ((x >>> (x2 &&& 31)) &&& (1 : Int32))))) := hF
      refine lv_iload_n hx hb dX10_bits_4 rfl (lv_at hl 0 rfl) ?_
      refine lv_bipush (v := (8 : Int32)) hx hb dX10_bits_5 (by decide) ?_
      refine lv_icmp_ge (tgt := 24) hx hb dX10_bits_7 (by decide) (fun c_1 => ?_) (fun c_1 => ?_)
      · have hF := hF.trans (if_pos c_1)
        refine lv_iload_n hx hb dX10_bits_24 rfl (lv_at hl 1 rfl) ?_
        exact r_ret hx hb hr hlk rfl (by rw [hF]) trivial dX10_bits_25
      · have hF := hF.trans (if_neg c_1)
        refine lv_iload_n hx hb dX10_bits_10 rfl (lv_at hl 1 rfl) ?_
        refine lv_iload_n hx hb dX10_bits_11 rfl (lv_at hl 2 rfl) ?_
        refine lv_iload_n hx hb dX10_bits_12 rfl (lv_at hl 0 rfl) ?_
        refine lv_ishr hx hb dX10_bits_13 ?_
        refine lv_iconst (v := (1 : Int32)) hx hb dX10_bits_14 (by decide) ?_
        refine lv_iand hx hb dX10_bits_15 ?_
        refine lv_iadd hx hb dX10_bits_16 ?_
        refine lv_istore_n (lv' := [(1, .int (x1 + ((x >>> (x2 &&& 31)) &&& (1 : Int32)))), (2, .int x2), (0, .int x)]) hx hb dX10_bits_17 rfl hl (by decide) rfl (fun ls hl => ?_)
        refine lv_iinc (v := (x2 + 1)) (lv' := [(2, .int (x2 + 1)), (1, .int (x1 + ((x >>> (x2 &&& 31)) &&& (1 : Int32)))), (0, .int x)]) hx hb dX10_bits_18 hl (k := 1) rfl rfl (by decide) rfl (fun ls hl => ?_)
        refine lv_goto (tgt := 4) hx hb dX10_bits_21 (by decide) ?_
        exact ih (x2 + 1) (x1 + ((x >>> (x2 &&& 31)) &&& (1 : Int32))) ls (lv_sub hl [0, 1, 2] rfl) (upI_s (Int32.not_le.mp c_1) hu) hF
  exact L4 ((((8 : Int32)).toInt - ((0 : Int32)).toInt).toNat + 1) (0 : Int32) (0 : Int32) ls (lv_sub hl [0, 1, 2] rfl) (upI_i) hF
theorem dX10_gives_0 : decode cX10_gives 0 = .ok (.aload_n 0, 1) := by decide +kernel
theorem dX10_gives_1 : decode cX10_gives 1 = .ok (.aload_n 0, 1) := by decide +kernel
theorem dX10_gives_2 : decode cX10_gives 2 = .ok (.iload_n 1, 1) := by decide +kernel
theorem dX10_gives_3 : decode cX10_gives 3 = .ok (.invokevirtual 112, 3) := by decide +kernel
theorem u_1820 : Cond.methodLink RX10 112 yX10_isPerson ∈ UW := uw 1820 (by decide +kernel) rfl
theorem u_1822 : Cond.instanceMethod yX10_isPerson ∈ UW := uw 1822 (by decide +kernel) rfl
theorem u_32 : Cond.selects RX10 yX10_isPerson yX10_isPerson ∈ UW := uw 32 (by decide +kernel) rfl
theorem u_1823 : Cond.code yX10_isPerson cX10_isPerson 2 (some .boolean) ∈ UW := uw 1823 (by decide +kernel) rfl
theorem g_X10_112 : GoodIn UW (wsV RX10 112 RX10 yX10_isPerson (wsU yX10_isPerson cX10_isPerson 2 (some .boolean))) := gV u_1820 u_1822 u_32 u_77 u_1823
theorem hdv_X10_isPerson : yX10_isPerson.cls = RX10 ∧ yX10_isPerson.cls ≠ "java/lang/invoke/MethodHandle" ∧ yX10_isPerson.cls ≠ "java/lang/invoke/VarHandle" ∧ (parseMethodDescriptor yX10_isPerson.desc).map (fun d => d.parameters.length) = some 1 := by decide +kernel
theorem dX10_gives_6 : decode cX10_gives 6 = .ok (.ifCond .ne 7, 3) := by decide +kernel
theorem dX10_gives_13 : decode cX10_gives 13 = .ok (.iconst 0, 1) := by decide +kernel
theorem dX10_gives_14 : decode cX10_gives 14 = .ok (.iconst 1, 1) := by decide +kernel
theorem dX10_gives_15 : decode cX10_gives 15 = .ok (.invokevirtual 63, 3) := by decide +kernel
theorem dX10_gives_18 : decode cX10_gives 18 = .ok (.ifCond .ne 37, 3) := by decide +kernel
theorem dX10_gives_21 : decode cX10_gives 21 = .ok (.aload_n 0, 1) := by decide +kernel
theorem dX10_gives_22 : decode cX10_gives 22 = .ok (.iload_n 2, 1) := by decide +kernel
theorem dX10_gives_23 : decode cX10_gives 23 = .ok (.invokestatic 52, 3) := by decide +kernel
theorem dX10_gives_26 : decode cX10_gives 26 = .ok (.ifCond .ne 7, 3) := by decide +kernel
theorem dX10_gives_33 : decode cX10_gives 33 = .ok (.iconst 0, 1) := by decide +kernel
theorem dX10_gives_34 : decode cX10_gives 34 = .ok (.iconst 2, 1) := by decide +kernel
theorem dX10_gives_35 : decode cX10_gives 35 = .ok (.invokevirtual 63, 3) := by decide +kernel
theorem dX10_gives_38 : decode cX10_gives 38 = .ok (.ifCond .ne 17, 3) := by decide +kernel
theorem dX10_gives_41 : decode cX10_gives 41 = .ok (.aload_n 0, 1) := by decide +kernel
theorem dX10_gives_42 : decode cX10_gives 42 = .ok (.aload_n 0, 1) := by decide +kernel
theorem dX10_gives_43 : decode cX10_gives 43 = .ok (.iload_n 1, 1) := by decide +kernel
theorem dX10_gives_44 : decode cX10_gives 44 = .ok (.iload_n 2, 1) := by decide +kernel
theorem dX10_gives_45 : decode cX10_gives 45 = .ok (.invokevirtual 115, 3) := by decide +kernel
theorem u_1824 : Cond.methodLink RX10 115 yX10_has ∈ UW := uw 1824 (by decide +kernel) rfl
theorem u_1826 : Cond.instanceMethod yX10_has ∈ UW := uw 1826 (by decide +kernel) rfl
theorem u_33 : Cond.selects RX10 yX10_has yX10_has ∈ UW := uw 33 (by decide +kernel) rfl
theorem u_1827 : Cond.code yX10_has cX10_has 3 (some .boolean) ∈ UW := uw 1827 (by decide +kernel) rfl
theorem g_X10_115 : GoodIn UW (wsV RX10 115 RX10 yX10_has (wsU yX10_has cX10_has 3 (some .boolean))) := gV u_1824 u_1826 u_33 u_77 u_1827
theorem hdv_X10_has : yX10_has.cls = RX10 ∧ yX10_has.cls ≠ "java/lang/invoke/MethodHandle" ∧ yX10_has.cls ≠ "java/lang/invoke/VarHandle" ∧ (parseMethodDescriptor yX10_has.desc).map (fun d => d.parameters.length) = some 2 := by decide +kernel
theorem dX10_gives_48 : decode cX10_gives 48 = .ok (.iconst 3, 1) := by decide +kernel
theorem dX10_gives_49 : decode cX10_gives 49 = .ok (.invokevirtual 63, 3) := by decide +kernel
theorem dX10_gives_52 : decode cX10_gives 52 = .ok (.ifCond .eq 5, 3) := by decide +kernel
theorem dX10_gives_57 : decode cX10_gives 57 = .ok (.aload_n 0, 1) := by decide +kernel
theorem dX10_gives_58 : decode cX10_gives 58 = .ok (.getfield 9, 3) := by decide +kernel
theorem dX10_gives_61 : decode cX10_gives 61 = .ok (.bipush 43, 2) := by decide +kernel
theorem dX10_gives_63 : decode cX10_gives 63 = .ok (.iconst 2, 1) := by decide +kernel
theorem dX10_gives_64 : decode cX10_gives 64 = .ok (.iload_n 1, 1) := by decide +kernel
theorem dX10_gives_65 : decode cX10_gives 65 = .ok (.imul, 1) := by decide +kernel
theorem dX10_gives_66 : decode cX10_gives 66 = .ok (.iadd, 1) := by decide +kernel
theorem dX10_gives_67 : decode cX10_gives 67 = .ok (.iconst 0, 1) := by decide +kernel
theorem dX10_gives_68 : decode cX10_gives 68 = .ok (.iadd, 1) := by decide +kernel
theorem dX10_gives_69 : decode cX10_gives 69 = .ok (.dup2, 1) := by decide +kernel
theorem dX10_gives_70 : decode cX10_gives 70 = .ok (.iaload, 1) := by decide +kernel
theorem dX10_gives_71 : decode cX10_gives 71 = .ok (.iconst 1, 1) := by decide +kernel
theorem dX10_gives_72 : decode cX10_gives 72 = .ok (.iload_n 2, 1) := by decide +kernel
theorem dX10_gives_73 : decode cX10_gives 73 = .ok (.ishl, 1) := by decide +kernel
theorem dX10_gives_74 : decode cX10_gives 74 = .ok (.ior, 1) := by decide +kernel
theorem dX10_gives_75 : decode cX10_gives 75 = .ok (.iastore, 1) := by decide +kernel
theorem dX10_gives_76 : decode cX10_gives 76 = .ok (.aload_n 0, 1) := by decide +kernel
theorem dX10_gives_77 : decode cX10_gives 77 = .ok (.iload_n 1, 1) := by decide +kernel
theorem dX10_gives_78 : decode cX10_gives 78 = .ok (.iconst 0, 1) := by decide +kernel
theorem dX10_gives_79 : decode cX10_gives 79 = .ok (.invokevirtual 109, 3) := by decide +kernel
theorem dX10_gives_82 : decode cX10_gives 82 = .ok (.invokestatic 118, 3) := by decide +kernel
theorem u_1832 : Cond.methodLink RX10 118 yX10_bits ∈ UW := uw 1832 (by decide +kernel) rfl
theorem u_1833 : Cond.static yX10_bits ∈ UW := uw 1833 (by decide +kernel) rfl
theorem u_1834 : Cond.code yX10_bits cX10_bits 3 (some .int) ∈ UW := uw 1834 (by decide +kernel) rfl
theorem g_X10_118 : GoodIn UW (va_wsS RX10 118 yX10_bits (wsU yX10_bits cX10_bits 3 (some .int))) := gS u_1832 u_1833 u_77 u_1834
theorem hds_X10_bits : yX10_bits.cls ≠ "java/lang/invoke/MethodHandle" ∧ yX10_bits.cls ≠ "java/lang/invoke/VarHandle" ∧ (parseMethodDescriptor yX10_bits.desc).map (fun d => d.parameters.length) = some 1 := by decide +kernel
theorem dX10_gives_85 : decode cX10_gives 85 = .ok (.ireturn, 1) := by decide +kernel
theorem dX10_gives_55 : decode cX10_gives 55 = .ok (.iconst 0, 1) := by decide +kernel
theorem dX10_gives_56 : decode cX10_gives 56 = .ok (.ireturn, 1) := by decide +kernel
theorem dX10_gives_29 : decode cX10_gives 29 = .ok (.iconst 1, 1) := by decide +kernel
theorem dX10_gives_30 : decode cX10_gives 30 = .ok (.goto 4, 3) := by decide +kernel
theorem dX10_gives_9 : decode cX10_gives 9 = .ok (.iconst 1, 1) := by decide +kernel
theorem dX10_gives_10 : decode cX10_gives 10 = .ok (.goto 4, 3) := by decide +kernel
def f_X10_gives (d : MoV) (ps : Int32) (k : Int32) : Int32 × MoV := (if (f_X10_isPerson d ps) = (0 : Int32) then (let u_25 : MoV := (f_X10_isThrown d (1 : Int32) (1 : Int32)); ((0 : Int32), u_25)) else (let u_4 : MoV := (f_X10_isThrown d (0 : Int32) (1 : Int32)); (if (f_X10_isKey k) = (0 : Int32) then (let u_22 : MoV := (f_X10_isThrown u_4 (1 : Int32) (2 : Int32)); ((0 : Int32), u_22)) else (let u_9 : MoV := (f_X10_isThrown u_4 (0 : Int32) (2 : Int32)); (let u_14 : MoV := (f_X10_isThrown u_9 (f_X10_has u_9 ps k) (3 : Int32)); (if (f_X10_has u_9 ps k) = (0 : Int32) then ((f_X10_bits (f_X10_ofPerson (mo0 u_14 (upd u_14.1 (((43 : Int32) + ((2 : Int32) * ps)) + (0 : Int32)).toNatClampNeg ((u_14.1 (((43 : Int32) + ((2 : Int32) * ps)) + (0 : Int32)).toNatClampNeg) ||| ((1 : Int32) <<< (k &&& 31))))) ps (0 : Int32))), (mo0 u_14 (upd u_14.1 (((43 : Int32) + ((2 : Int32) * ps)) + (0 : Int32)).toNatClampNeg ((u_14.1 (((43 : Int32) + ((2 : Int32) * ps)) + (0 : Int32)).toNatClampNeg) ||| ((1 : Int32) <<< (k &&& 31)))))) else ((0 : Int32), u_14)))))))
def ok_X10_gives (d : MoV) (ps : Int32) (k : Int32) : Prop := (if (f_X10_isPerson d ps) = (0 : Int32) then True else (let u_4 : MoV := (f_X10_isThrown d (0 : Int32) (1 : Int32)); (if (f_X10_isKey k) = (0 : Int32) then True else (let u_9 : MoV := (f_X10_isThrown u_4 (0 : Int32) (2 : Int32)); (ok_X10_has u_9 ps k ∧ (let u_14 : MoV := (f_X10_isThrown u_9 (f_X10_has u_9 ps k) (3 : Int32)); (if (f_X10_has u_9 ps k) = (0 : Int32) then (vp_in (((43 : Int32) + ((2 : Int32) * ps)) + (0 : Int32)) 249 ∧ (vp_in (((43 : Int32) + ((2 : Int32) * ps)) + (0 : Int32)) 249 ∧ (ok_X10_ofPerson (mo0 u_14 (upd u_14.1 (((43 : Int32) + ((2 : Int32) * ps)) + (0 : Int32)).toNatClampNeg ((u_14.1 (((43 : Int32) + ((2 : Int32) * ps)) + (0 : Int32)).toNatClampNeg) ||| ((1 : Int32) <<< (k &&& 31))))) ps (0 : Int32) ∧ True))) else True)))))))
set_option maxHeartbeats 4000000 in
set_option maxRecDepth 100000 in
theorem c_X10_gives (l : Launch) (G : GG) (dh0 : Nat) (dh1 : Nat) (dh2 : Nat) (dh3 : Nat) (dh4 : Nat) (dh5 : Nat) (dh6 : Nat) (dh7 : Nat) (sz : Nat) (d : MoV) (ps : Int32) (k : Int32) (hok : ok_X10_gives d ps k) : wMet l yX10_gives cX10_gives 3 (some .int) 4 0 0 G (fl [wMo G dh0 dh1 dh2 dh3 dh4 dh5 dh6 dh7 d]) [.ref dh0, .int ps, .int k] sz (fun u : Int32 × MoV => some (.int u.1)) (fun u : Int32 × MoV => u = f_X10_gives d ps k) (fun u : Int32 × MoV => fl [wMo G dh0 dh1 dh2 dh3 dh4 dh5 dh6 dh7 u.2]) := by
  refine w_start (by decide +kernel) (Nat.le_of_ble_eq_true rfl) ?_
  intro p e s m below meth c A hx hb hr hml hts hown hlk hin hP hD hA hK hST ls hl
  have hS : va_S A s.heap s.heap [] := va_S.rf
  have hown : s.vm.findClass RX10 = some m.cls := hown
  have hl : lv_has ls 3 [(0, .ref dh0), (1, .int ps), (2, .int k)] := hl
  have hF : f_X10_gives d ps k = (if (f_X10_isPerson d ps) = (0 : Int32) then (let u_25 : MoV := (f_X10_isThrown d (1 : Int32) (1 : Int32)); ((0 : Int32), u_25)) else (let u_4 : MoV := (f_X10_isThrown d (0 : Int32) (1 : Int32)); (if (f_X10_isKey k) = (0 : Int32) then (let u_22 : MoV := (f_X10_isThrown u_4 (1 : Int32) (2 : Int32)); ((0 : Int32), u_22)) else (let u_9 : MoV := (f_X10_isThrown u_4 (0 : Int32) (2 : Int32)); (let u_14 : MoV := (f_X10_isThrown u_9 (f_X10_has u_9 ps k) (3 : Int32)); (if (f_X10_has u_9 ps k) = (0 : Int32) then ((f_X10_bits (f_X10_ofPerson (mo0 u_14 (upd u_14.1 (((43 : Int32) + ((2 : Int32) * ps)) + (0 : Int32)).toNatClampNeg ((u_14.1 (((43 : Int32) + ((2 : Int32) * ps)) + (0 : Int32)).toNatClampNeg) ||| ((1 : Int32) <<< (k &&& 31))))) ps (0 : Int32))), (mo0 u_14 (upd u_14.1 (((43 : Int32) + ((2 : Int32) * ps)) + (0 : Int32)).toNatClampNeg ((u_14.1 (((43 : Int32) + ((2 : Int32) * ps)) + (0 : Int32)).toNatClampNeg) ||| ((1 : Int32) <<< (k &&& 31)))))) else ((0 : Int32), u_14))))))) := rfl
  have hok : (if (f_X10_isPerson d ps) = (0 : Int32) then True else (let u_4 : MoV := (f_X10_isThrown d (0 : Int32) (1 : Int32)); (if (f_X10_isKey k) = (0 : Int32) then True else (let u_9 : MoV := (f_X10_isThrown u_4 (0 : Int32) (2 : Int32)); (ok_X10_has u_9 ps k ∧ (let u_14 : MoV := (f_X10_isThrown u_9 (f_X10_has u_9 ps k) (3 : Int32)); (if (f_X10_has u_9 ps k) = (0 : Int32) then (vp_in (((43 : Int32) + ((2 : Int32) * ps)) + (0 : Int32)) 249 ∧ (vp_in (((43 : Int32) + ((2 : Int32) * ps)) + (0 : Int32)) 249 ∧ (ok_X10_ofPerson (mo0 u_14 (upd u_14.1 (((43 : Int32) + ((2 : Int32) * ps)) + (0 : Int32)).toNatClampNeg ((u_14.1 (((43 : Int32) + ((2 : Int32) * ps)) + (0 : Int32)).toNatClampNeg) ||| ((1 : Int32) <<< (k &&& 31))))) ps (0 : Int32) ∧ True))) else True))))))) := hok
  refine lv_aload_n hx hb dX10_gives_0 rfl (lv_at hl 0 rfl) ?_
  refine lv_aload_n hx hb dX10_gives_1 rfl (lv_at hl 0 rfl) ?_
  refine lv_iload_n hx hb dX10_gives_2 rfl (lv_at hl 1 rfl) ?_
  refine r_V (own := RX10) (v := (some (.int (f_X10_isPerson d ps)))) (st1 := [.int (f_X10_isPerson d ps), .ref dh0]) (As := [.int ps]) (rest := [.ref dh0]) (c_X10_isPerson l G dh0 dh1 dh2 dh3 dh4 dh5 dh6 dh7 d ps) ⟨hx, hb, hml, hown, hts⟩ g_X10_112 hdv_X10_isPerson hK hST hS hP [0, 1, 2, 3, 4, 5, 6, 7] rfl (k0 := 0) rfl rfl rfl ⟨Nat.le_of_ble_eq_true rfl, Nat.le_of_ble_eq_true rfl⟩ ⟨Nat.le_of_ble_eq_true rfl, Nat.le_of_ble_eq_true rfl⟩ rfl hl.1 rfl (Nat.le_of_ble_eq_true rfl) dX10_gives_3 rfl (fun b_1 => ?_)
  refine lv_if_ne (tgt := 13) hx hb dX10_gives_6 (by decide) (fun c_2 => ?_) (fun c_2 => ?_)
  · have hF := hF.trans (if_neg c_2)
    have hok := Eq.mp (if_neg c_2) hok
    refine lv_iconst (v := (0 : Int32)) hx hb dX10_gives_13 (by decide) ?_
    refine lv_iconst (v := (1 : Int32)) hx hb dX10_gives_14 (by decide) ?_
    refine w_V (own := RX10) (cs := [wMo G dh0 dh1 dh2 dh3 dh4 dh5 dh6 dh7 d]) (rs := []) (As := [.int (0 : Int32), .int (1 : Int32)]) (rest := []) (c_X10_isThrown l G dh0 dh1 dh2 dh3 dh4 dh5 dh6 dh7 s.heap.size d (0 : Int32) (1 : Int32) (rfl)) ⟨hx, hb, hml, hown, hts⟩ g_X10_63 hdv_X10_isThrown hK hST hS hP hD hA [0] [] rfl rfl rfl (k0 := 0) rfl rfl rfl ⟨Nat.le_of_ble_eq_true rfl, Nat.le_of_ble_eq_true rfl⟩ ⟨Nat.le_of_ble_eq_true rfl, Nat.le_of_ble_eq_true rfl⟩ rfl hl.1 rfl (Nat.le_of_ble_eq_true rfl) dX10_gives_15 (fun u_4 H locs huu hP hD hS => ?_)
    have eu_4 := huu
    have hP : va_P G.1 vwCl (fl [wMo G dh0 dh1 dh2 dh3 dh4 dh5 dh6 dh7 u_4]) H := hP
    have hD : va_D A (fl [wMo G dh0 dh1 dh2 dh3 dh4 dh5 dh6 dh7 u_4]) := hD
    refine W.eq (g2 := F0 m 18 ls [.int (0 : Int32)]) rfl ?_
    have hF : f_X10_gives d ps k = (if (f_X10_isKey k) = (0 : Int32) then (let u_22 : MoV := (f_X10_isThrown u_4 (1 : Int32) (2 : Int32)); ((0 : Int32), u_22)) else (let u_9 : MoV := (f_X10_isThrown u_4 (0 : Int32) (2 : Int32)); (let u_14 : MoV := (f_X10_isThrown u_9 (f_X10_has u_9 ps k) (3 : Int32)); (if (f_X10_has u_9 ps k) = (0 : Int32) then ((f_X10_bits (f_X10_ofPerson (mo0 u_14 (upd u_14.1 (((43 : Int32) + ((2 : Int32) * ps)) + (0 : Int32)).toNatClampNeg ((u_14.1 (((43 : Int32) + ((2 : Int32) * ps)) + (0 : Int32)).toNatClampNeg) ||| ((1 : Int32) <<< (k &&& 31))))) ps (0 : Int32))), (mo0 u_14 (upd u_14.1 (((43 : Int32) + ((2 : Int32) * ps)) + (0 : Int32)).toNatClampNeg ((u_14.1 (((43 : Int32) + ((2 : Int32) * ps)) + (0 : Int32)).toNatClampNeg) ||| ((1 : Int32) <<< (k &&& 31)))))) else ((0 : Int32), u_14))))) := by subst eu_4; exact hF
    have hok : (if (f_X10_isKey k) = (0 : Int32) then True else (let u_9 : MoV := (f_X10_isThrown u_4 (0 : Int32) (2 : Int32)); (ok_X10_has u_9 ps k ∧ (let u_14 : MoV := (f_X10_isThrown u_9 (f_X10_has u_9 ps k) (3 : Int32)); (if (f_X10_has u_9 ps k) = (0 : Int32) then (vp_in (((43 : Int32) + ((2 : Int32) * ps)) + (0 : Int32)) 249 ∧ (vp_in (((43 : Int32) + ((2 : Int32) * ps)) + (0 : Int32)) 249 ∧ (ok_X10_ofPerson (mo0 u_14 (upd u_14.1 (((43 : Int32) + ((2 : Int32) * ps)) + (0 : Int32)).toNatClampNeg ((u_14.1 (((43 : Int32) + ((2 : Int32) * ps)) + (0 : Int32)).toNatClampNeg) ||| ((1 : Int32) <<< (k &&& 31))))) ps (0 : Int32) ∧ True))) else True))))) := by subst eu_4; exact hok
    refine lv_if_ne (tgt := 55) hx hb dX10_gives_18 (by decide) (fun c_5 => ?_) (fun c_5 => ?_)
    · exact absurd c_5 (by decide)
    · refine lv_aload_n hx hb dX10_gives_21 rfl (lv_at hl 0 rfl) ?_
      refine lv_iload_n hx hb dX10_gives_22 rfl (lv_at hl 2 rfl) ?_
      refine r_S (own := RX10) (v := (some (.int (f_X10_isKey k)))) (st1 := [.int (f_X10_isKey k), .ref dh0]) (As := [.int k]) (rest := [.ref dh0]) (c_X10_isKey l G k) ⟨hx, hb, hml, hown, hts⟩ g_X10_52 hds_X10_isKey hK hST hS hP [] rfl ⟨Nat.le_of_ble_eq_true rfl, Nat.le_of_ble_eq_true rfl⟩ ⟨Nat.le_of_ble_eq_true rfl, Nat.le_of_ble_eq_true rfl⟩ rfl hl.1 rfl (Nat.le_of_ble_eq_true rfl) dX10_gives_23 rfl (fun b_6 => ?_)
      refine lv_if_ne (tgt := 33) hx hb dX10_gives_26 (by decide) (fun c_7 => ?_) (fun c_7 => ?_)
      · have hF := hF.trans (if_neg c_7)
        have hok := Eq.mp (if_neg c_7) hok
        refine lv_iconst (v := (0 : Int32)) hx hb dX10_gives_33 (by decide) ?_
        refine lv_iconst (v := (2 : Int32)) hx hb dX10_gives_34 (by decide) ?_
        refine w_V (own := RX10) (cs := [wMo G dh0 dh1 dh2 dh3 dh4 dh5 dh6 dh7 u_4]) (rs := []) (As := [.int (0 : Int32), .int (2 : Int32)]) (rest := []) (c_X10_isThrown l G dh0 dh1 dh2 dh3 dh4 dh5 dh6 dh7 H.size u_4 (0 : Int32) (2 : Int32) (rfl)) ⟨hx, hb, hml, hown, hts⟩ g_X10_63 hdv_X10_isThrown hK hST hS hP hD hA [0] [] rfl rfl rfl (k0 := 0) rfl rfl rfl ⟨Nat.le_of_ble_eq_true rfl, Nat.le_of_ble_eq_true rfl⟩ ⟨Nat.le_of_ble_eq_true rfl, Nat.le_of_ble_eq_true rfl⟩ rfl hl.1 rfl (Nat.le_of_ble_eq_true rfl) dX10_gives_35 (fun u_9 H locs huu hP hD hS => ?_)
        have eu_9 := huu
        have hP : va_P G.1 vwCl (fl [wMo G dh0 dh1 dh2 dh3 dh4 dh5 dh6 dh7 u_9]) H := hP
        have hD : va_D A (fl [wMo G dh0 dh1 dh2 dh3 dh4 dh5 dh6 dh7 u_9]) := hD
        refine W.eq (g2 := F0 m 38 ls [.int (0 : Int32)]) rfl ?_
        have hF : f_X10_gives d ps k = (let u_14 : MoV := (f_X10_isThrown u_9 (f_X10_has u_9 ps k) (3 : Int32)); (if (f_X10_has u_9 ps k) = (0 : Int32) then ((f_X10_bits (f_X10_ofPerson (mo0 u_14 (upd u_14.1 (((43 : Int32) + ((2 : Int32) * ps)) + (0 : Int32)).toNatClampNeg ((u_14.1 (((43 : Int32) + ((2 : Int32) * ps)) + (0 : Int32)).toNatClampNeg) ||| ((1 : Int32) <<< (k &&& 31))))) ps (0 : Int32))), (mo0 u_14 (upd u_14.1 (((43 : Int32) + ((2 : Int32) * ps)) + (0 : Int32)).toNatClampNeg ((u_14.1 (((43 : Int32) + ((2 : Int32) * ps)) + (0 : Int32)).toNatClampNeg) ||| ((1 : Int32) <<< (k &&& 31)))))) else ((0 : Int32), u_14))) := by subst eu_9; exact hF
        have hok : (ok_X10_has u_9 ps k ∧ (let u_14 : MoV := (f_X10_isThrown u_9 (f_X10_has u_9 ps k) (3 : Int32)); (if (f_X10_has u_9 ps k) = (0 : Int32) then (vp_in (((43 : Int32) + ((2 : Int32) * ps)) + (0 : Int32)) 249 ∧ (vp_in (((43 : Int32) + ((2 : Int32) * ps)) + (0 : Int32)) 249 ∧ (ok_X10_ofPerson (mo0 u_14 (upd u_14.1 (((43 : Int32) + ((2 : Int32) * ps)) + (0 : Int32)).toNatClampNeg ((u_14.1 (((43 : Int32) + ((2 : Int32) * ps)) + (0 : Int32)).toNatClampNeg) ||| ((1 : Int32) <<< (k &&& 31))))) ps (0 : Int32) ∧ True))) else True))) := by subst eu_9; exact hok
        refine lv_if_ne (tgt := 55) hx hb dX10_gives_38 (by decide) (fun c_10 => ?_) (fun c_10 => ?_)
        · exact absurd c_10 (by decide)
        · refine lv_aload_n hx hb dX10_gives_41 rfl (lv_at hl 0 rfl) ?_
          refine lv_aload_n hx hb dX10_gives_42 rfl (lv_at hl 0 rfl) ?_
          refine lv_iload_n hx hb dX10_gives_43 rfl (lv_at hl 1 rfl) ?_
          refine lv_iload_n hx hb dX10_gives_44 rfl (lv_at hl 2 rfl) ?_
          have k_11 := hok.1
          have hok := hok.2
          refine r_V (own := RX10) (v := (some (.int (f_X10_has u_9 ps k)))) (st1 := [.int (f_X10_has u_9 ps k), .ref dh0]) (As := [.int ps, .int k]) (rest := [.ref dh0]) (c_X10_has l G dh0 dh1 dh2 dh3 dh4 dh5 dh6 dh7 u_9 ps k k_11) ⟨hx, hb, hml, hown, hts⟩ g_X10_115 hdv_X10_has hK hST hS hP [0, 1, 2, 3, 4, 5, 6, 7] rfl (k0 := 0) rfl rfl rfl ⟨Nat.le_of_ble_eq_true rfl, Nat.le_of_ble_eq_true rfl⟩ ⟨Nat.le_of_ble_eq_true rfl, Nat.le_of_ble_eq_true rfl⟩ rfl hl.1 rfl (Nat.le_of_ble_eq_true rfl) dX10_gives_45 rfl (fun b_12 => ?_)
          refine lv_iconst (v := (3 : Int32)) hx hb dX10_gives_48 (by decide) ?_
          refine w_V (own := RX10) (cs := [wMo G dh0 dh1 dh2 dh3 dh4 dh5 dh6 dh7 u_9]) (rs := []) (As := [.int (f_X10_has u_9 ps k), .int (3 : Int32)]) (rest := []) (c_X10_isThrown l G dh0 dh1 dh2 dh3 dh4 dh5 dh6 dh7 H.size u_9 (f_X10_has u_9 ps k) (3 : Int32) (b_12)) ⟨hx, hb, hml, hown, hts⟩ g_X10_63 hdv_X10_isThrown hK hST hS hP hD hA [0] [] rfl rfl rfl (k0 := 0) rfl rfl rfl ⟨Nat.le_of_ble_eq_true rfl, Nat.le_of_ble_eq_true rfl⟩ ⟨Nat.le_of_ble_eq_true rfl, Nat.le_of_ble_eq_true rfl⟩ rfl hl.1 rfl (Nat.le_of_ble_eq_true rfl) dX10_gives_49 (fun u_14 H locs huu hP hD hS => ?_)
          have eu_14 := huu
          have hP : va_P G.1 vwCl (fl [wMo G dh0 dh1 dh2 dh3 dh4 dh5 dh6 dh7 u_14]) H := hP
          have hD : va_D A (fl [wMo G dh0 dh1 dh2 dh3 dh4 dh5 dh6 dh7 u_14]) := hD
          refine W.eq (g2 := F0 m 52 ls [.int (f_X10_has u_9 ps k)]) rfl ?_
          have hF : f_X10_gives d ps k = (if (f_X10_has u_9 ps k) = (0 : Int32) then ((f_X10_bits (f_X10_ofPerson (mo0 u_14 (upd u_14.1 (((43 : Int32) + ((2 : Int32) * ps)) + (0 : Int32)).toNatClampNeg ((u_14.1 (((43 : Int32) + ((2 : Int32) * ps)) + (0 : Int32)).toNatClampNeg) ||| ((1 : Int32) <<< (k &&& 31))))) ps (0 : Int32))), (mo0 u_14 (upd u_14.1 (((43 : Int32) + ((2 : Int32) * ps)) + (0 : Int32)).toNatClampNeg ((u_14.1 (((43 : Int32) + ((2 : Int32) * ps)) + (0 : Int32)).toNatClampNeg) ||| ((1 : Int32) <<< (k &&& 31)))))) else ((0 : Int32), u_14)) := by subst eu_14; exact hF
          have hok : (if (f_X10_has u_9 ps k) = (0 : Int32) then (vp_in (((43 : Int32) + ((2 : Int32) * ps)) + (0 : Int32)) 249 ∧ (vp_in (((43 : Int32) + ((2 : Int32) * ps)) + (0 : Int32)) 249 ∧ (ok_X10_ofPerson (mo0 u_14 (upd u_14.1 (((43 : Int32) + ((2 : Int32) * ps)) + (0 : Int32)).toNatClampNeg ((u_14.1 (((43 : Int32) + ((2 : Int32) * ps)) + (0 : Int32)).toNatClampNeg) ||| ((1 : Int32) <<< (k &&& 31))))) ps (0 : Int32) ∧ True))) else True) := by subst eu_14; exact hok
          refine lv_if_eq (tgt := 57) hx hb dX10_gives_52 (by decide) (fun c_15 => ?_) (fun c_15 => ?_)
          · have hF := hF.trans (if_pos c_15)
            have hok := Eq.mp (if_pos c_15) hok
            refine lv_aload_n hx hb dX10_gives_57 rfl (lv_at hl 0 rfl) ?_
            refine va_get (D := G.1) (ci := 12) (v := .ref dh1) (C := RX10) (T := TX10) (N := 17) hx hb hts uws_X10 hown hK hP 0 rfl rfl 0 (by decide) (hts _ u_1680) (fun _ h9 => h9) rfl dX10_gives_58 ?_
            refine lv_bipush (v := (43 : Int32)) hx hb dX10_gives_61 (by decide) ?_
            refine lv_iconst (v := (2 : Int32)) hx hb dX10_gives_63 (by decide) ?_
            refine lv_iload_n hx hb dX10_gives_64 rfl (lv_at hl 1 rfl) ?_
            refine lv_imul hx hb dX10_gives_65 ?_
            refine lv_iadd hx hb dX10_gives_66 ?_
            refine lv_iconst (v := (0 : Int32)) hx hb dX10_gives_67 (by decide) ?_
            refine lv_iadd hx hb dX10_gives_68 ?_
            refine lv_dup2_11 hx hb dX10_gives_69 rfl rfl ?_
            have h_16 := hok.1
            have hok := hok.2
            refine va_iald hx hb hK hP 1 0 rfl rfl h_16 dX10_gives_70 ?_
            refine lv_iconst (v := (1 : Int32)) hx hb dX10_gives_71 (by decide) ?_
            refine lv_iload_n hx hb dX10_gives_72 rfl (lv_at hl 2 rfl) ?_
            refine lv_ishl hx hb dX10_gives_73 ?_
            refine lv_ior hx hb dX10_gives_74 ?_
            have h_17 := hok.1
            have hok := hok.2
            refine va_iast hx hb hK hP hD hS 1 0 rfl rfl h_17 dX10_gives_75 (fun H locs hP hD hS => ?_)
            have hP : va_P G.1 vwCl (fl [wMo G dh0 dh1 dh2 dh3 dh4 dh5 dh6 dh7 (mo0 u_14 (upd u_14.1 (((43 : Int32) + ((2 : Int32) * ps)) + (0 : Int32)).toNatClampNeg ((u_14.1 (((43 : Int32) + ((2 : Int32) * ps)) + (0 : Int32)).toNatClampNeg) ||| ((1 : Int32) <<< (k &&& 31)))))]) H := hP
            have hD : va_D A (fl [wMo G dh0 dh1 dh2 dh3 dh4 dh5 dh6 dh7 (mo0 u_14 (upd u_14.1 (((43 : Int32) + ((2 : Int32) * ps)) + (0 : Int32)).toNatClampNeg ((u_14.1 (((43 : Int32) + ((2 : Int32) * ps)) + (0 : Int32)).toNatClampNeg) ||| ((1 : Int32) <<< (k &&& 31)))))]) := hD
            refine lv_aload_n hx hb dX10_gives_76 rfl (lv_at hl 0 rfl) ?_
            refine lv_iload_n hx hb dX10_gives_77 rfl (lv_at hl 1 rfl) ?_
            refine lv_iconst (v := (0 : Int32)) hx hb dX10_gives_78 (by decide) ?_
            have k_18 := hok.1
            have hok := hok.2
            refine r_V (own := RX10) (v := (some (.int (f_X10_ofPerson (mo0 u_14 (upd u_14.1 (((43 : Int32) + ((2 : Int32) * ps)) + (0 : Int32)).toNatClampNeg ((u_14.1 (((43 : Int32) + ((2 : Int32) * ps)) + (0 : Int32)).toNatClampNeg) ||| ((1 : Int32) <<< (k &&& 31))))) ps (0 : Int32))))) (st1 := [.int (f_X10_ofPerson (mo0 u_14 (upd u_14.1 (((43 : Int32) + ((2 : Int32) * ps)) + (0 : Int32)).toNatClampNeg ((u_14.1 (((43 : Int32) + ((2 : Int32) * ps)) + (0 : Int32)).toNatClampNeg) ||| ((1 : Int32) <<< (k &&& 31))))) ps (0 : Int32))]) (As := [.int ps, .int (0 : Int32)]) (rest := []) (c_X10_ofPerson l G dh0 dh1 dh2 dh3 dh4 dh5 dh6 dh7 (mo0 u_14 (upd u_14.1 (((43 : Int32) + ((2 : Int32) * ps)) + (0 : Int32)).toNatClampNeg ((u_14.1 (((43 : Int32) + ((2 : Int32) * ps)) + (0 : Int32)).toNatClampNeg) ||| ((1 : Int32) <<< (k &&& 31))))) ps (0 : Int32) k_18) ⟨hx, hb, hml, hown, hts⟩ g_X10_109 hdv_X10_ofPerson hK hST hS hP [0, 1, 2, 3, 4, 5, 6, 7] rfl (k0 := 0) rfl rfl rfl ⟨Nat.le_of_ble_eq_true rfl, Nat.le_of_ble_eq_true rfl⟩ ⟨Nat.le_of_ble_eq_true rfl, Nat.le_of_ble_eq_true rfl⟩ rfl hl.1 rfl (Nat.le_of_ble_eq_true rfl) dX10_gives_79 rfl (fun b_19 => ?_)
            refine r_S (own := RX10) (v := (some (.int (f_X10_bits (f_X10_ofPerson (mo0 u_14 (upd u_14.1 (((43 : Int32) + ((2 : Int32) * ps)) + (0 : Int32)).toNatClampNeg ((u_14.1 (((43 : Int32) + ((2 : Int32) * ps)) + (0 : Int32)).toNatClampNeg) ||| ((1 : Int32) <<< (k &&& 31))))) ps (0 : Int32)))))) (st1 := [.int (f_X10_bits (f_X10_ofPerson (mo0 u_14 (upd u_14.1 (((43 : Int32) + ((2 : Int32) * ps)) + (0 : Int32)).toNatClampNeg ((u_14.1 (((43 : Int32) + ((2 : Int32) * ps)) + (0 : Int32)).toNatClampNeg) ||| ((1 : Int32) <<< (k &&& 31))))) ps (0 : Int32)))]) (As := [.int (f_X10_ofPerson (mo0 u_14 (upd u_14.1 (((43 : Int32) + ((2 : Int32) * ps)) + (0 : Int32)).toNatClampNeg ((u_14.1 (((43 : Int32) + ((2 : Int32) * ps)) + (0 : Int32)).toNatClampNeg) ||| ((1 : Int32) <<< (k &&& 31))))) ps (0 : Int32))]) (rest := []) (c_X10_bits l G (f_X10_ofPerson (mo0 u_14 (upd u_14.1 (((43 : Int32) + ((2 : Int32) * ps)) + (0 : Int32)).toNatClampNeg ((u_14.1 (((43 : Int32) + ((2 : Int32) * ps)) + (0 : Int32)).toNatClampNeg) ||| ((1 : Int32) <<< (k &&& 31))))) ps (0 : Int32))) ⟨hx, hb, hml, hown, hts⟩ g_X10_118 hds_X10_bits hK hST hS hP [] rfl ⟨Nat.le_of_ble_eq_true rfl, Nat.le_of_ble_eq_true rfl⟩ ⟨Nat.le_of_ble_eq_true rfl, Nat.le_of_ble_eq_true rfl⟩ rfl hl.1 rfl (Nat.le_of_ble_eq_true rfl) dX10_gives_82 rfl (fun b_20 => ?_)
            exact w_ret (u := ((f_X10_bits (f_X10_ofPerson (mo0 u_14 (upd u_14.1 (((43 : Int32) + ((2 : Int32) * ps)) + (0 : Int32)).toNatClampNeg ((u_14.1 (((43 : Int32) + ((2 : Int32) * ps)) + (0 : Int32)).toNatClampNeg) ||| ((1 : Int32) <<< (k &&& 31))))) ps (0 : Int32))), (mo0 u_14 (upd u_14.1 (((43 : Int32) + ((2 : Int32) * ps)) + (0 : Int32)).toNatClampNeg ((u_14.1 (((43 : Int32) + ((2 : Int32) * ps)) + (0 : Int32)).toNatClampNeg) ||| ((1 : Int32) <<< (k &&& 31))))))) hx hb hr hlk rfl hS rfl hF.symm hP hD (Nat.le_of_ble_eq_true rfl) (Nat.le_of_ble_eq_true rfl) dX10_gives_85
          · have hF := hF.trans (if_neg c_15)
            have hok := Eq.mp (if_neg c_15) hok
            refine lv_iconst (v := (0 : Int32)) hx hb dX10_gives_55 (by decide) ?_
            exact w_ret (u := ((0 : Int32), u_14)) hx hb hr hlk rfl hS rfl hF.symm hP hD (Nat.le_of_ble_eq_true rfl) (Nat.le_of_ble_eq_true rfl) dX10_gives_56
      · have hF := hF.trans (if_pos c_7)
        have hok := Eq.mp (if_pos c_7) hok
        refine lv_iconst (v := (1 : Int32)) hx hb dX10_gives_29 (by decide) ?_
        refine lv_goto (tgt := 34) hx hb dX10_gives_30 (by decide) ?_
        refine lv_iconst (v := (2 : Int32)) hx hb dX10_gives_34 (by decide) ?_
        refine w_V (own := RX10) (cs := [wMo G dh0 dh1 dh2 dh3 dh4 dh5 dh6 dh7 u_4]) (rs := []) (As := [.int (1 : Int32), .int (2 : Int32)]) (rest := []) (c_X10_isThrown l G dh0 dh1 dh2 dh3 dh4 dh5 dh6 dh7 H.size u_4 (1 : Int32) (2 : Int32) (rfl)) ⟨hx, hb, hml, hown, hts⟩ g_X10_63 hdv_X10_isThrown hK hST hS hP hD hA [0] [] rfl rfl rfl (k0 := 0) rfl rfl rfl ⟨Nat.le_of_ble_eq_true rfl, Nat.le_of_ble_eq_true rfl⟩ ⟨Nat.le_of_ble_eq_true rfl, Nat.le_of_ble_eq_true rfl⟩ rfl hl.1 rfl (Nat.le_of_ble_eq_true rfl) dX10_gives_35 (fun u_22 H locs huu hP hD hS => ?_)
        have eu_22 := huu
        have hP : va_P G.1 vwCl (fl [wMo G dh0 dh1 dh2 dh3 dh4 dh5 dh6 dh7 u_22]) H := hP
        have hD : va_D A (fl [wMo G dh0 dh1 dh2 dh3 dh4 dh5 dh6 dh7 u_22]) := hD
        refine W.eq (g2 := F0 m 38 ls [.int (1 : Int32)]) rfl ?_
        have hF : f_X10_gives d ps k = ((0 : Int32), u_22) := by subst eu_22; exact hF
        refine lv_if_ne (tgt := 55) hx hb dX10_gives_38 (by decide) (fun c_23 => ?_) (fun c_23 => ?_)
        · refine lv_iconst (v := (0 : Int32)) hx hb dX10_gives_55 (by decide) ?_
          exact w_ret (u := ((0 : Int32), u_22)) hx hb hr hlk rfl hS rfl hF.symm hP hD (Nat.le_of_ble_eq_true rfl) (Nat.le_of_ble_eq_true rfl) dX10_gives_56
        · exact absurd c_23 (by decide)
  · have hF := hF.trans (if_pos c_2)
    have hok := Eq.mp (if_pos c_2) hok
    refine lv_iconst (v := (1 : Int32)) hx hb dX10_gives_9 (by decide) ?_
    refine lv_goto (tgt := 14) hx hb dX10_gives_10 (by decide) ?_
    refine lv_iconst (v := (1 : Int32)) hx hb dX10_gives_14 (by decide) ?_
    refine w_V (own := RX10) (cs := [wMo G dh0 dh1 dh2 dh3 dh4 dh5 dh6 dh7 d]) (rs := []) (As := [.int (1 : Int32), .int (1 : Int32)]) (rest := []) (c_X10_isThrown l G dh0 dh1 dh2 dh3 dh4 dh5 dh6 dh7 s.heap.size d (1 : Int32) (1 : Int32) (rfl)) ⟨hx, hb, hml, hown, hts⟩ g_X10_63 hdv_X10_isThrown hK hST hS hP hD hA [0] [] rfl rfl rfl (k0 := 0) rfl rfl rfl ⟨Nat.le_of_ble_eq_true rfl, Nat.le_of_ble_eq_true rfl⟩ ⟨Nat.le_of_ble_eq_true rfl, Nat.le_of_ble_eq_true rfl⟩ rfl hl.1 rfl (Nat.le_of_ble_eq_true rfl) dX10_gives_15 (fun u_25 H locs huu hP hD hS => ?_)
    have eu_25 := huu
    have hP : va_P G.1 vwCl (fl [wMo G dh0 dh1 dh2 dh3 dh4 dh5 dh6 dh7 u_25]) H := hP
    have hD : va_D A (fl [wMo G dh0 dh1 dh2 dh3 dh4 dh5 dh6 dh7 u_25]) := hD
    refine W.eq (g2 := F0 m 18 ls [.int (1 : Int32)]) rfl ?_
    have hF : f_X10_gives d ps k = ((0 : Int32), u_25) := by subst eu_25; exact hF
    refine lv_if_ne (tgt := 55) hx hb dX10_gives_18 (by decide) (fun c_26 => ?_) (fun c_26 => ?_)
    · refine lv_iconst (v := (0 : Int32)) hx hb dX10_gives_55 (by decide) ?_
      exact w_ret (u := ((0 : Int32), u_25)) hx hb hr hlk rfl hS rfl hF.symm hP hD (Nat.le_of_ble_eq_true rfl) (Nat.le_of_ble_eq_true rfl) dX10_gives_56
    · exact absurd c_26 (by decide)
theorem dX10_giveKey_0 : decode cX10_giveKey 0 = .ok (.aload_n 0, 1) := by decide +kernel
theorem dX10_giveKey_1 : decode cX10_giveKey 1 = .ok (.invokevirtual 56, 3) := by decide +kernel
theorem dX10_giveKey_4 : decode cX10_giveKey 4 = .ok (.aload_n 0, 1) := by decide +kernel
theorem dX10_giveKey_5 : decode cX10_giveKey 5 = .ok (.aload_n 0, 1) := by decide +kernel
theorem dX10_giveKey_6 : decode cX10_giveKey 6 = .ok (.iload_n 1, 1) := by decide +kernel
theorem dX10_giveKey_7 : decode cX10_giveKey 7 = .ok (.iload_n 2, 1) := by decide +kernel
theorem dX10_giveKey_8 : decode cX10_giveKey 8 = .ok (.invokevirtual 121, 3) := by decide +kernel
theorem u_1816 : Cond.methodLink RX10 121 yX10_gives ∈ UW := uw 1816 (by decide +kernel) rfl
theorem u_1818 : Cond.instanceMethod yX10_gives ∈ UW := uw 1818 (by decide +kernel) rfl
theorem u_31 : Cond.selects RX10 yX10_gives yX10_gives ∈ UW := uw 31 (by decide +kernel) rfl
theorem u_1819 : Cond.code yX10_gives cX10_gives 3 (some .int) ∈ UW := uw 1819 (by decide +kernel) rfl
theorem g_X10_121 : GoodIn UW (wsV RX10 121 RX10 yX10_gives (wsU yX10_gives cX10_gives 3 (some .int))) := gV u_1816 u_1818 u_31 u_77 u_1819
theorem hdv_X10_gives : yX10_gives.cls = RX10 ∧ yX10_gives.cls ≠ "java/lang/invoke/MethodHandle" ∧ yX10_gives.cls ≠ "java/lang/invoke/VarHandle" ∧ (parseMethodDescriptor yX10_gives.desc).map (fun d => d.parameters.length) = some 2 := by decide +kernel
theorem dX10_giveKey_11 : decode cX10_giveKey 11 = .ok (.invokevirtual 71, 3) := by decide +kernel
theorem dX10_giveKey_14 : decode cX10_giveKey 14 = .ok (.ireturn, 1) := by decide +kernel
def f_X10_giveKey (d : MoV) (ps : Int32) (k : Int32) : Int32 × MoV := (let u_3 : MoV := (f_X10_keeps d); (let u_6 : Int32 × MoV := (f_X10_gives u_3 ps k); (let u_9 : Int32 × MoV := (f_X10_ends u_6.2 u_6.1); (u_9.1, u_9.2))))
def ok_X10_giveKey (d : MoV) (ps : Int32) (k : Int32) : Prop := (ok_X10_keeps d ∧ (let u_3 : MoV := (f_X10_keeps d); (ok_X10_gives u_3 ps k ∧ (let u_6 : Int32 × MoV := (f_X10_gives u_3 ps k); (ok_X10_ends u_6.2 u_6.1 ∧ True)))))
set_option maxHeartbeats 4000000 in
set_option maxRecDepth 100000 in
theorem c_X10_giveKey (l : Launch) (G : GG) (dh0 : Nat) (dh1 : Nat) (dh2 : Nat) (dh3 : Nat) (dh4 : Nat) (dh5 : Nat) (dh6 : Nat) (dh7 : Nat) (sz : Nat) (d : MoV) (ps : Int32) (k : Int32) (hok : ok_X10_giveKey d ps k) : wMet l yX10_giveKey cX10_giveKey 3 (some .int) 5 0 0 G (fl [wMo G dh0 dh1 dh2 dh3 dh4 dh5 dh6 dh7 d]) [.ref dh0, .int ps, .int k] sz (fun u : Int32 × MoV => some (.int u.1)) (fun u : Int32 × MoV => u = f_X10_giveKey d ps k) (fun u : Int32 × MoV => fl [wMo G dh0 dh1 dh2 dh3 dh4 dh5 dh6 dh7 u.2]) := by
  refine w_start (by decide +kernel) (Nat.le_of_ble_eq_true rfl) ?_
  intro p e s m below meth c A hx hb hr hml hts hown hlk hin hP hD hA hK hST ls hl
  have hS : va_S A s.heap s.heap [] := va_S.rf
  have hown : s.vm.findClass RX10 = some m.cls := hown
  have hl : lv_has ls 3 [(0, .ref dh0), (1, .int ps), (2, .int k)] := hl
  have hF : f_X10_giveKey d ps k = (let u_3 : MoV := (f_X10_keeps d); (let u_6 : Int32 × MoV := (f_X10_gives u_3 ps k); (let u_9 : Int32 × MoV := (f_X10_ends u_6.2 u_6.1); (u_9.1, u_9.2)))) := rfl
  have hok : (ok_X10_keeps d ∧ (let u_3 : MoV := (f_X10_keeps d); (ok_X10_gives u_3 ps k ∧ (let u_6 : Int32 × MoV := (f_X10_gives u_3 ps k); (ok_X10_ends u_6.2 u_6.1 ∧ True))))) := hok
  refine lv_aload_n hx hb dX10_giveKey_0 rfl (lv_at hl 0 rfl) ?_
  have k_1 := hok.1
  have hok := hok.2
  refine w_V (own := RX10) (cs := [wMo G dh0 dh1 dh2 dh3 dh4 dh5 dh6 dh7 d]) (rs := []) (As := []) (rest := []) (c_X10_keeps l G dh0 dh1 dh2 dh3 dh4 dh5 dh6 dh7 s.heap.size d k_1) ⟨hx, hb, hml, hown, hts⟩ g_X10_56 hdv_X10_keeps hK hST hS hP hD hA [0] [] rfl rfl rfl (k0 := 0) rfl rfl rfl ⟨Nat.le_of_ble_eq_true rfl, Nat.le_of_ble_eq_true rfl⟩ ⟨Nat.le_of_ble_eq_true rfl, Nat.le_of_ble_eq_true rfl⟩ rfl hl.1 rfl (Nat.le_of_ble_eq_true rfl) dX10_giveKey_1 (fun u_3 H locs huu hP hD hS => ?_)
  have eu_3 := huu
  have hP : va_P G.1 vwCl (fl [wMo G dh0 dh1 dh2 dh3 dh4 dh5 dh6 dh7 u_3]) H := hP
  have hD : va_D A (fl [wMo G dh0 dh1 dh2 dh3 dh4 dh5 dh6 dh7 u_3]) := hD
  refine W.eq (g2 := F0 m 4 ls []) rfl ?_
  have hF : f_X10_giveKey d ps k = (let u_6 : Int32 × MoV := (f_X10_gives u_3 ps k); (let u_9 : Int32 × MoV := (f_X10_ends u_6.2 u_6.1); (u_9.1, u_9.2))) := by subst eu_3; exact hF
  have hok : (ok_X10_gives u_3 ps k ∧ (let u_6 : Int32 × MoV := (f_X10_gives u_3 ps k); (ok_X10_ends u_6.2 u_6.1 ∧ True))) := by subst eu_3; exact hok
  refine lv_aload_n hx hb dX10_giveKey_4 rfl (lv_at hl 0 rfl) ?_
  refine lv_aload_n hx hb dX10_giveKey_5 rfl (lv_at hl 0 rfl) ?_
  refine lv_iload_n hx hb dX10_giveKey_6 rfl (lv_at hl 1 rfl) ?_
  refine lv_iload_n hx hb dX10_giveKey_7 rfl (lv_at hl 2 rfl) ?_
  have k_4 := hok.1
  have hok := hok.2
  refine w_V (own := RX10) (cs := [wMo G dh0 dh1 dh2 dh3 dh4 dh5 dh6 dh7 u_3]) (rs := []) (As := [.int ps, .int k]) (rest := [.ref dh0]) (c_X10_gives l G dh0 dh1 dh2 dh3 dh4 dh5 dh6 dh7 H.size u_3 ps k k_4) ⟨hx, hb, hml, hown, hts⟩ g_X10_121 hdv_X10_gives hK hST hS hP hD hA [0] [] rfl rfl rfl (k0 := 0) rfl rfl rfl ⟨Nat.le_of_ble_eq_true rfl, Nat.le_of_ble_eq_true rfl⟩ ⟨Nat.le_of_ble_eq_true rfl, Nat.le_of_ble_eq_true rfl⟩ rfl hl.1 rfl (Nat.le_of_ble_eq_true rfl) dX10_giveKey_8 (fun u_6 H locs huu hP hD hS => ?_)
  have eu_6 := huu
  have hP : va_P G.1 vwCl (fl [wMo G dh0 dh1 dh2 dh3 dh4 dh5 dh6 dh7 u_6.2]) H := hP
  have hD : va_D A (fl [wMo G dh0 dh1 dh2 dh3 dh4 dh5 dh6 dh7 u_6.2]) := hD
  refine W.eq (g2 := F0 m 11 ls [.int u_6.1, .ref dh0]) rfl ?_
  have hF : f_X10_giveKey d ps k = (let u_9 : Int32 × MoV := (f_X10_ends u_6.2 u_6.1); (u_9.1, u_9.2)) := by subst eu_6; exact hF
  have hok : (ok_X10_ends u_6.2 u_6.1 ∧ True) := by subst eu_6; exact hok
  have k_7 := hok.1
  have hok := hok.2
  refine w_V (own := RX10) (cs := [wMo G dh0 dh1 dh2 dh3 dh4 dh5 dh6 dh7 u_6.2]) (rs := []) (As := [.int u_6.1]) (rest := []) (c_X10_ends l G dh0 dh1 dh2 dh3 dh4 dh5 dh6 dh7 H.size u_6.2 u_6.1 k_7) ⟨hx, hb, hml, hown, hts⟩ g_X10_71 hdv_X10_ends hK hST hS hP hD hA [0] [] rfl rfl rfl (k0 := 0) rfl rfl rfl ⟨Nat.le_of_ble_eq_true rfl, Nat.le_of_ble_eq_true rfl⟩ ⟨Nat.le_of_ble_eq_true rfl, Nat.le_of_ble_eq_true rfl⟩ rfl hl.1 rfl (Nat.le_of_ble_eq_true rfl) dX10_giveKey_11 (fun u_9 H locs huu hP hD hS => ?_)
  have eu_9 := huu
  have hP : va_P G.1 vwCl (fl [wMo G dh0 dh1 dh2 dh3 dh4 dh5 dh6 dh7 u_9.2]) H := hP
  have hD : va_D A (fl [wMo G dh0 dh1 dh2 dh3 dh4 dh5 dh6 dh7 u_9.2]) := hD
  refine W.eq (g2 := F0 m 14 ls [.int u_9.1]) rfl ?_
  have hF : f_X10_giveKey d ps k = (u_9.1, u_9.2) := by subst eu_9; exact hF
  exact w_ret (u := (u_9.1, u_9.2)) hx hb hr hlk rfl hS rfl hF.symm hP hD (Nat.le_of_ble_eq_true rfl) (Nat.le_of_ble_eq_true rfl) dX10_giveKey_14
theorem dX10_takes_0 : decode cX10_takes 0 = .ok (.aload_n 0, 1) := by decide +kernel
theorem dX10_takes_1 : decode cX10_takes 1 = .ok (.aload_n 0, 1) := by decide +kernel
theorem dX10_takes_2 : decode cX10_takes 2 = .ok (.iload_n 1, 1) := by decide +kernel
theorem dX10_takes_3 : decode cX10_takes 3 = .ok (.invokevirtual 112, 3) := by decide +kernel
theorem dX10_takes_6 : decode cX10_takes 6 = .ok (.ifCond .ne 7, 3) := by decide +kernel
theorem dX10_takes_13 : decode cX10_takes 13 = .ok (.iconst 0, 1) := by decide +kernel
theorem dX10_takes_14 : decode cX10_takes 14 = .ok (.iconst 1, 1) := by decide +kernel
theorem dX10_takes_15 : decode cX10_takes 15 = .ok (.invokevirtual 63, 3) := by decide +kernel
theorem dX10_takes_18 : decode cX10_takes 18 = .ok (.ifCond .ne 25, 3) := by decide +kernel
theorem dX10_takes_21 : decode cX10_takes 21 = .ok (.aload_n 0, 1) := by decide +kernel
theorem dX10_takes_22 : decode cX10_takes 22 = .ok (.aload_n 0, 1) := by decide +kernel
theorem dX10_takes_23 : decode cX10_takes 23 = .ok (.iload_n 1, 1) := by decide +kernel
theorem dX10_takes_24 : decode cX10_takes 24 = .ok (.iload_n 2, 1) := by decide +kernel
theorem dX10_takes_25 : decode cX10_takes 25 = .ok (.invokevirtual 115, 3) := by decide +kernel
theorem dX10_takes_28 : decode cX10_takes 28 = .ok (.ifCond .ne 7, 3) := by decide +kernel
theorem dX10_takes_35 : decode cX10_takes 35 = .ok (.iconst 0, 1) := by decide +kernel
theorem dX10_takes_36 : decode cX10_takes 36 = .ok (.iconst 2, 1) := by decide +kernel
theorem dX10_takes_37 : decode cX10_takes 37 = .ok (.invokevirtual 63, 3) := by decide +kernel
theorem dX10_takes_40 : decode cX10_takes 40 = .ok (.ifCond .eq 5, 3) := by decide +kernel
theorem dX10_takes_45 : decode cX10_takes 45 = .ok (.aload_n 0, 1) := by decide +kernel
theorem dX10_takes_46 : decode cX10_takes 46 = .ok (.getfield 9, 3) := by decide +kernel
theorem dX10_takes_49 : decode cX10_takes 49 = .ok (.bipush 43, 2) := by decide +kernel
theorem dX10_takes_51 : decode cX10_takes 51 = .ok (.iconst 2, 1) := by decide +kernel
theorem dX10_takes_52 : decode cX10_takes 52 = .ok (.iload_n 1, 1) := by decide +kernel
theorem dX10_takes_53 : decode cX10_takes 53 = .ok (.imul, 1) := by decide +kernel
theorem dX10_takes_54 : decode cX10_takes 54 = .ok (.iadd, 1) := by decide +kernel
theorem dX10_takes_55 : decode cX10_takes 55 = .ok (.iconst 0, 1) := by decide +kernel
theorem dX10_takes_56 : decode cX10_takes 56 = .ok (.iadd, 1) := by decide +kernel
theorem dX10_takes_57 : decode cX10_takes 57 = .ok (.dup2, 1) := by decide +kernel
theorem dX10_takes_58 : decode cX10_takes 58 = .ok (.iaload, 1) := by decide +kernel
theorem dX10_takes_59 : decode cX10_takes 59 = .ok (.iconst 1, 1) := by decide +kernel
theorem dX10_takes_60 : decode cX10_takes 60 = .ok (.iload_n 2, 1) := by decide +kernel
theorem dX10_takes_61 : decode cX10_takes 61 = .ok (.ishl, 1) := by decide +kernel
theorem dX10_takes_62 : decode cX10_takes 62 = .ok (.isub, 1) := by decide +kernel
theorem dX10_takes_63 : decode cX10_takes 63 = .ok (.iastore, 1) := by decide +kernel
theorem dX10_takes_64 : decode cX10_takes 64 = .ok (.aload_n 0, 1) := by decide +kernel
theorem dX10_takes_65 : decode cX10_takes 65 = .ok (.iload_n 1, 1) := by decide +kernel
theorem dX10_takes_66 : decode cX10_takes 66 = .ok (.iconst 0, 1) := by decide +kernel
theorem dX10_takes_67 : decode cX10_takes 67 = .ok (.invokevirtual 109, 3) := by decide +kernel
theorem dX10_takes_70 : decode cX10_takes 70 = .ok (.invokestatic 118, 3) := by decide +kernel
theorem dX10_takes_73 : decode cX10_takes 73 = .ok (.ireturn, 1) := by decide +kernel
theorem dX10_takes_31 : decode cX10_takes 31 = .ok (.iconst 1, 1) := by decide +kernel
theorem dX10_takes_32 : decode cX10_takes 32 = .ok (.goto 4, 3) := by decide +kernel
theorem dX10_takes_43 : decode cX10_takes 43 = .ok (.iconst 0, 1) := by decide +kernel
theorem dX10_takes_44 : decode cX10_takes 44 = .ok (.ireturn, 1) := by decide +kernel
theorem dX10_takes_9 : decode cX10_takes 9 = .ok (.iconst 1, 1) := by decide +kernel
theorem dX10_takes_10 : decode cX10_takes 10 = .ok (.goto 4, 3) := by decide +kernel
def f_X10_takes (d : MoV) (ps : Int32) (k : Int32) : Int32 × MoV := (if (f_X10_isPerson d ps) = (0 : Int32) then (let u_21 : MoV := (f_X10_isThrown d (1 : Int32) (1 : Int32)); ((0 : Int32), u_21)) else (let u_4 : MoV := (f_X10_isThrown d (0 : Int32) (1 : Int32)); (if (f_X10_has u_4 ps k) = (0 : Int32) then (let u_18 : MoV := (f_X10_isThrown u_4 (1 : Int32) (2 : Int32)); ((0 : Int32), u_18)) else (let u_10 : MoV := (f_X10_isThrown u_4 (0 : Int32) (2 : Int32)); ((f_X10_bits (f_X10_ofPerson (mo0 u_10 (upd u_10.1 (((43 : Int32) + ((2 : Int32) * ps)) + (0 : Int32)).toNatClampNeg ((u_10.1 (((43 : Int32) + ((2 : Int32) * ps)) + (0 : Int32)).toNatClampNeg) - ((1 : Int32) <<< (k &&& 31))))) ps (0 : Int32))), (mo0 u_10 (upd u_10.1 (((43 : Int32) + ((2 : Int32) * ps)) + (0 : Int32)).toNatClampNeg ((u_10.1 (((43 : Int32) + ((2 : Int32) * ps)) + (0 : Int32)).toNatClampNeg) - ((1 : Int32) <<< (k &&& 31))))))))))
def ok_X10_takes (d : MoV) (ps : Int32) (k : Int32) : Prop := (if (f_X10_isPerson d ps) = (0 : Int32) then True else (let u_4 : MoV := (f_X10_isThrown d (0 : Int32) (1 : Int32)); (ok_X10_has u_4 ps k ∧ (if (f_X10_has u_4 ps k) = (0 : Int32) then True else (let u_10 : MoV := (f_X10_isThrown u_4 (0 : Int32) (2 : Int32)); (vp_in (((43 : Int32) + ((2 : Int32) * ps)) + (0 : Int32)) 249 ∧ (vp_in (((43 : Int32) + ((2 : Int32) * ps)) + (0 : Int32)) 249 ∧ (ok_X10_ofPerson (mo0 u_10 (upd u_10.1 (((43 : Int32) + ((2 : Int32) * ps)) + (0 : Int32)).toNatClampNeg ((u_10.1 (((43 : Int32) + ((2 : Int32) * ps)) + (0 : Int32)).toNatClampNeg) - ((1 : Int32) <<< (k &&& 31))))) ps (0 : Int32) ∧ True))))))))
set_option maxHeartbeats 4000000 in
set_option maxRecDepth 100000 in
theorem c_X10_takes (l : Launch) (G : GG) (dh0 : Nat) (dh1 : Nat) (dh2 : Nat) (dh3 : Nat) (dh4 : Nat) (dh5 : Nat) (dh6 : Nat) (dh7 : Nat) (sz : Nat) (d : MoV) (ps : Int32) (k : Int32) (hok : ok_X10_takes d ps k) : wMet l yX10_takes cX10_takes 3 (some .int) 4 0 0 G (fl [wMo G dh0 dh1 dh2 dh3 dh4 dh5 dh6 dh7 d]) [.ref dh0, .int ps, .int k] sz (fun u : Int32 × MoV => some (.int u.1)) (fun u : Int32 × MoV => u = f_X10_takes d ps k) (fun u : Int32 × MoV => fl [wMo G dh0 dh1 dh2 dh3 dh4 dh5 dh6 dh7 u.2]) := by
  refine w_start (by decide +kernel) (Nat.le_of_ble_eq_true rfl) ?_
  intro p e s m below meth c A hx hb hr hml hts hown hlk hin hP hD hA hK hST ls hl
  have hS : va_S A s.heap s.heap [] := va_S.rf
  have hown : s.vm.findClass RX10 = some m.cls := hown
  have hl : lv_has ls 3 [(0, .ref dh0), (1, .int ps), (2, .int k)] := hl
  have hF : f_X10_takes d ps k = (if (f_X10_isPerson d ps) = (0 : Int32) then (let u_21 : MoV := (f_X10_isThrown d (1 : Int32) (1 : Int32)); ((0 : Int32), u_21)) else (let u_4 : MoV := (f_X10_isThrown d (0 : Int32) (1 : Int32)); (if (f_X10_has u_4 ps k) = (0 : Int32) then (let u_18 : MoV := (f_X10_isThrown u_4 (1 : Int32) (2 : Int32)); ((0 : Int32), u_18)) else (let u_10 : MoV := (f_X10_isThrown u_4 (0 : Int32) (2 : Int32)); ((f_X10_bits (f_X10_ofPerson (mo0 u_10 (upd u_10.1 (((43 : Int32) + ((2 : Int32) * ps)) + (0 : Int32)).toNatClampNeg ((u_10.1 (((43 : Int32) + ((2 : Int32) * ps)) + (0 : Int32)).toNatClampNeg) - ((1 : Int32) <<< (k &&& 31))))) ps (0 : Int32))), (mo0 u_10 (upd u_10.1 (((43 : Int32) + ((2 : Int32) * ps)) + (0 : Int32)).toNatClampNeg ((u_10.1 (((43 : Int32) + ((2 : Int32) * ps)) + (0 : Int32)).toNatClampNeg) - ((1 : Int32) <<< (k &&& 31)))))))))) := rfl
  have hok : (if (f_X10_isPerson d ps) = (0 : Int32) then True else (let u_4 : MoV := (f_X10_isThrown d (0 : Int32) (1 : Int32)); (ok_X10_has u_4 ps k ∧ (if (f_X10_has u_4 ps k) = (0 : Int32) then True else (let u_10 : MoV := (f_X10_isThrown u_4 (0 : Int32) (2 : Int32)); (vp_in (((43 : Int32) + ((2 : Int32) * ps)) + (0 : Int32)) 249 ∧ (vp_in (((43 : Int32) + ((2 : Int32) * ps)) + (0 : Int32)) 249 ∧ (ok_X10_ofPerson (mo0 u_10 (upd u_10.1 (((43 : Int32) + ((2 : Int32) * ps)) + (0 : Int32)).toNatClampNeg ((u_10.1 (((43 : Int32) + ((2 : Int32) * ps)) + (0 : Int32)).toNatClampNeg) - ((1 : Int32) <<< (k &&& 31))))) ps (0 : Int32) ∧ True)))))))) := hok
  refine lv_aload_n hx hb dX10_takes_0 rfl (lv_at hl 0 rfl) ?_
  refine lv_aload_n hx hb dX10_takes_1 rfl (lv_at hl 0 rfl) ?_
  refine lv_iload_n hx hb dX10_takes_2 rfl (lv_at hl 1 rfl) ?_
  refine r_V (own := RX10) (v := (some (.int (f_X10_isPerson d ps)))) (st1 := [.int (f_X10_isPerson d ps), .ref dh0]) (As := [.int ps]) (rest := [.ref dh0]) (c_X10_isPerson l G dh0 dh1 dh2 dh3 dh4 dh5 dh6 dh7 d ps) ⟨hx, hb, hml, hown, hts⟩ g_X10_112 hdv_X10_isPerson hK hST hS hP [0, 1, 2, 3, 4, 5, 6, 7] rfl (k0 := 0) rfl rfl rfl ⟨Nat.le_of_ble_eq_true rfl, Nat.le_of_ble_eq_true rfl⟩ ⟨Nat.le_of_ble_eq_true rfl, Nat.le_of_ble_eq_true rfl⟩ rfl hl.1 rfl (Nat.le_of_ble_eq_true rfl) dX10_takes_3 rfl (fun b_1 => ?_)
  refine lv_if_ne (tgt := 13) hx hb dX10_takes_6 (by decide) (fun c_2 => ?_) (fun c_2 => ?_)
  · have hF := hF.trans (if_neg c_2)
    have hok := Eq.mp (if_neg c_2) hok
    refine lv_iconst (v := (0 : Int32)) hx hb dX10_takes_13 (by decide) ?_
    refine lv_iconst (v := (1 : Int32)) hx hb dX10_takes_14 (by decide) ?_
    refine w_V (own := RX10) (cs := [wMo G dh0 dh1 dh2 dh3 dh4 dh5 dh6 dh7 d]) (rs := []) (As := [.int (0 : Int32), .int (1 : Int32)]) (rest := []) (c_X10_isThrown l G dh0 dh1 dh2 dh3 dh4 dh5 dh6 dh7 s.heap.size d (0 : Int32) (1 : Int32) (rfl)) ⟨hx, hb, hml, hown, hts⟩ g_X10_63 hdv_X10_isThrown hK hST hS hP hD hA [0] [] rfl rfl rfl (k0 := 0) rfl rfl rfl ⟨Nat.le_of_ble_eq_true rfl, Nat.le_of_ble_eq_true rfl⟩ ⟨Nat.le_of_ble_eq_true rfl, Nat.le_of_ble_eq_true rfl⟩ rfl hl.1 rfl (Nat.le_of_ble_eq_true rfl) dX10_takes_15 (fun u_4 H locs huu hP hD hS => ?_)
    have eu_4 := huu
    have hP : va_P G.1 vwCl (fl [wMo G dh0 dh1 dh2 dh3 dh4 dh5 dh6 dh7 u_4]) H := hP
    have hD : va_D A (fl [wMo G dh0 dh1 dh2 dh3 dh4 dh5 dh6 dh7 u_4]) := hD
    refine W.eq (g2 := F0 m 18 ls [.int (0 : Int32)]) rfl ?_
    have hF : f_X10_takes d ps k = (if (f_X10_has u_4 ps k) = (0 : Int32) then (let u_18 : MoV := (f_X10_isThrown u_4 (1 : Int32) (2 : Int32)); ((0 : Int32), u_18)) else (let u_10 : MoV := (f_X10_isThrown u_4 (0 : Int32) (2 : Int32)); ((f_X10_bits (f_X10_ofPerson (mo0 u_10 (upd u_10.1 (((43 : Int32) + ((2 : Int32) * ps)) + (0 : Int32)).toNatClampNeg ((u_10.1 (((43 : Int32) + ((2 : Int32) * ps)) + (0 : Int32)).toNatClampNeg) - ((1 : Int32) <<< (k &&& 31))))) ps (0 : Int32))), (mo0 u_10 (upd u_10.1 (((43 : Int32) + ((2 : Int32) * ps)) + (0 : Int32)).toNatClampNeg ((u_10.1 (((43 : Int32) + ((2 : Int32) * ps)) + (0 : Int32)).toNatClampNeg) - ((1 : Int32) <<< (k &&& 31)))))))) := by subst eu_4; exact hF
    have hok : (ok_X10_has u_4 ps k ∧ (if (f_X10_has u_4 ps k) = (0 : Int32) then True else (let u_10 : MoV := (f_X10_isThrown u_4 (0 : Int32) (2 : Int32)); (vp_in (((43 : Int32) + ((2 : Int32) * ps)) + (0 : Int32)) 249 ∧ (vp_in (((43 : Int32) + ((2 : Int32) * ps)) + (0 : Int32)) 249 ∧ (ok_X10_ofPerson (mo0 u_10 (upd u_10.1 (((43 : Int32) + ((2 : Int32) * ps)) + (0 : Int32)).toNatClampNeg ((u_10.1 (((43 : Int32) + ((2 : Int32) * ps)) + (0 : Int32)).toNatClampNeg) - ((1 : Int32) <<< (k &&& 31))))) ps (0 : Int32) ∧ True)))))) := by subst eu_4; exact hok
    refine lv_if_ne (tgt := 43) hx hb dX10_takes_18 (by decide) (fun c_5 => ?_) (fun c_5 => ?_)
    · exact absurd c_5 (by decide)
    · refine lv_aload_n hx hb dX10_takes_21 rfl (lv_at hl 0 rfl) ?_
      refine lv_aload_n hx hb dX10_takes_22 rfl (lv_at hl 0 rfl) ?_
      refine lv_iload_n hx hb dX10_takes_23 rfl (lv_at hl 1 rfl) ?_
      refine lv_iload_n hx hb dX10_takes_24 rfl (lv_at hl 2 rfl) ?_
      have k_6 := hok.1
      have hok := hok.2
      refine r_V (own := RX10) (v := (some (.int (f_X10_has u_4 ps k)))) (st1 := [.int (f_X10_has u_4 ps k), .ref dh0]) (As := [.int ps, .int k]) (rest := [.ref dh0]) (c_X10_has l G dh0 dh1 dh2 dh3 dh4 dh5 dh6 dh7 u_4 ps k k_6) ⟨hx, hb, hml, hown, hts⟩ g_X10_115 hdv_X10_has hK hST hS hP [0, 1, 2, 3, 4, 5, 6, 7] rfl (k0 := 0) rfl rfl rfl ⟨Nat.le_of_ble_eq_true rfl, Nat.le_of_ble_eq_true rfl⟩ ⟨Nat.le_of_ble_eq_true rfl, Nat.le_of_ble_eq_true rfl⟩ rfl hl.1 rfl (Nat.le_of_ble_eq_true rfl) dX10_takes_25 rfl (fun b_7 => ?_)
      refine lv_if_ne (tgt := 35) hx hb dX10_takes_28 (by decide) (fun c_8 => ?_) (fun c_8 => ?_)
      · have hF := hF.trans (if_neg c_8)
        have hok := Eq.mp (if_neg c_8) hok
        refine lv_iconst (v := (0 : Int32)) hx hb dX10_takes_35 (by decide) ?_
        refine lv_iconst (v := (2 : Int32)) hx hb dX10_takes_36 (by decide) ?_
        refine w_V (own := RX10) (cs := [wMo G dh0 dh1 dh2 dh3 dh4 dh5 dh6 dh7 u_4]) (rs := []) (As := [.int (0 : Int32), .int (2 : Int32)]) (rest := []) (c_X10_isThrown l G dh0 dh1 dh2 dh3 dh4 dh5 dh6 dh7 H.size u_4 (0 : Int32) (2 : Int32) (rfl)) ⟨hx, hb, hml, hown, hts⟩ g_X10_63 hdv_X10_isThrown hK hST hS hP hD hA [0] [] rfl rfl rfl (k0 := 0) rfl rfl rfl ⟨Nat.le_of_ble_eq_true rfl, Nat.le_of_ble_eq_true rfl⟩ ⟨Nat.le_of_ble_eq_true rfl, Nat.le_of_ble_eq_true rfl⟩ rfl hl.1 rfl (Nat.le_of_ble_eq_true rfl) dX10_takes_37 (fun u_10 H locs huu hP hD hS => ?_)
        have eu_10 := huu
        have hP : va_P G.1 vwCl (fl [wMo G dh0 dh1 dh2 dh3 dh4 dh5 dh6 dh7 u_10]) H := hP
        have hD : va_D A (fl [wMo G dh0 dh1 dh2 dh3 dh4 dh5 dh6 dh7 u_10]) := hD
        refine W.eq (g2 := F0 m 40 ls [.int (0 : Int32)]) rfl ?_
        have hF : f_X10_takes d ps k = ((f_X10_bits (f_X10_ofPerson (mo0 u_10 (upd u_10.1 (((43 : Int32) + ((2 : Int32) * ps)) + (0 : Int32)).toNatClampNeg ((u_10.1 (((43 : Int32) + ((2 : Int32) * ps)) + (0 : Int32)).toNatClampNeg) - ((1 : Int32) <<< (k &&& 31))))) ps (0 : Int32))), (mo0 u_10 (upd u_10.1 (((43 : Int32) + ((2 : Int32) * ps)) + (0 : Int32)).toNatClampNeg ((u_10.1 (((43 : Int32) + ((2 : Int32) * ps)) + (0 : Int32)).toNatClampNeg) - ((1 : Int32) <<< (k &&& 31)))))) := by subst eu_10; exact hF
        have hok : (vp_in (((43 : Int32) + ((2 : Int32) * ps)) + (0 : Int32)) 249 ∧ (vp_in (((43 : Int32) + ((2 : Int32) * ps)) + (0 : Int32)) 249 ∧ (ok_X10_ofPerson (mo0 u_10 (upd u_10.1 (((43 : Int32) + ((2 : Int32) * ps)) + (0 : Int32)).toNatClampNeg ((u_10.1 (((43 : Int32) + ((2 : Int32) * ps)) + (0 : Int32)).toNatClampNeg) - ((1 : Int32) <<< (k &&& 31))))) ps (0 : Int32) ∧ True))) := by subst eu_10; exact hok
        refine lv_if_eq (tgt := 45) hx hb dX10_takes_40 (by decide) (fun c_11 => ?_) (fun c_11 => ?_)
        · refine lv_aload_n hx hb dX10_takes_45 rfl (lv_at hl 0 rfl) ?_
          refine va_get (D := G.1) (ci := 12) (v := .ref dh1) (C := RX10) (T := TX10) (N := 17) hx hb hts uws_X10 hown hK hP 0 rfl rfl 0 (by decide) (hts _ u_1680) (fun _ h9 => h9) rfl dX10_takes_46 ?_
          refine lv_bipush (v := (43 : Int32)) hx hb dX10_takes_49 (by decide) ?_
          refine lv_iconst (v := (2 : Int32)) hx hb dX10_takes_51 (by decide) ?_
          refine lv_iload_n hx hb dX10_takes_52 rfl (lv_at hl 1 rfl) ?_
          refine lv_imul hx hb dX10_takes_53 ?_
          refine lv_iadd hx hb dX10_takes_54 ?_
          refine lv_iconst (v := (0 : Int32)) hx hb dX10_takes_55 (by decide) ?_
          refine lv_iadd hx hb dX10_takes_56 ?_
          refine lv_dup2_11 hx hb dX10_takes_57 rfl rfl ?_
          have h_12 := hok.1
          have hok := hok.2
          refine va_iald hx hb hK hP 1 0 rfl rfl h_12 dX10_takes_58 ?_
          refine lv_iconst (v := (1 : Int32)) hx hb dX10_takes_59 (by decide) ?_
          refine lv_iload_n hx hb dX10_takes_60 rfl (lv_at hl 2 rfl) ?_
          refine lv_ishl hx hb dX10_takes_61 ?_
          refine lv_isub hx hb dX10_takes_62 ?_
          have h_13 := hok.1
          have hok := hok.2
          refine va_iast hx hb hK hP hD hS 1 0 rfl rfl h_13 dX10_takes_63 (fun H locs hP hD hS => ?_)
          have hP : va_P G.1 vwCl (fl [wMo G dh0 dh1 dh2 dh3 dh4 dh5 dh6 dh7 (mo0 u_10 (upd u_10.1 (((43 : Int32) + ((2 : Int32) * ps)) + (0 : Int32)).toNatClampNeg ((u_10.1 (((43 : Int32) + ((2 : Int32) * ps)) + (0 : Int32)).toNatClampNeg) - ((1 : Int32) <<< (k &&& 31)))))]) H := hP
          have hD : va_D A (fl [wMo G dh0 dh1 dh2 dh3 dh4 dh5 dh6 dh7 (mo0 u_10 (upd u_10.1 (((43 : Int32) + ((2 : Int32) * ps)) + (0 : Int32)).toNatClampNeg ((u_10.1 (((43 : Int32) + ((2 : Int32) * ps)) + (0 : Int32)).toNatClampNeg) - ((1 : Int32) <<< (k &&& 31)))))]) := hD
          refine lv_aload_n hx hb dX10_takes_64 rfl (lv_at hl 0 rfl) ?_
          refine lv_iload_n hx hb dX10_takes_65 rfl (lv_at hl 1 rfl) ?_
          refine lv_iconst (v := (0 : Int32)) hx hb dX10_takes_66 (by decide) ?_
          have k_14 := hok.1
          have hok := hok.2
          refine r_V (own := RX10) (v := (some (.int (f_X10_ofPerson (mo0 u_10 (upd u_10.1 (((43 : Int32) + ((2 : Int32) * ps)) + (0 : Int32)).toNatClampNeg ((u_10.1 (((43 : Int32) + ((2 : Int32) * ps)) + (0 : Int32)).toNatClampNeg) - ((1 : Int32) <<< (k &&& 31))))) ps (0 : Int32))))) (st1 := [.int (f_X10_ofPerson (mo0 u_10 (upd u_10.1 (((43 : Int32) + ((2 : Int32) * ps)) + (0 : Int32)).toNatClampNeg ((u_10.1 (((43 : Int32) + ((2 : Int32) * ps)) + (0 : Int32)).toNatClampNeg) - ((1 : Int32) <<< (k &&& 31))))) ps (0 : Int32))]) (As := [.int ps, .int (0 : Int32)]) (rest := []) (c_X10_ofPerson l G dh0 dh1 dh2 dh3 dh4 dh5 dh6 dh7 (mo0 u_10 (upd u_10.1 (((43 : Int32) + ((2 : Int32) * ps)) + (0 : Int32)).toNatClampNeg ((u_10.1 (((43 : Int32) + ((2 : Int32) * ps)) + (0 : Int32)).toNatClampNeg) - ((1 : Int32) <<< (k &&& 31))))) ps (0 : Int32) k_14) ⟨hx, hb, hml, hown, hts⟩ g_X10_109 hdv_X10_ofPerson hK hST hS hP [0, 1, 2, 3, 4, 5, 6, 7] rfl (k0 := 0) rfl rfl rfl ⟨Nat.le_of_ble_eq_true rfl, Nat.le_of_ble_eq_true rfl⟩ ⟨Nat.le_of_ble_eq_true rfl, Nat.le_of_ble_eq_true rfl⟩ rfl hl.1 rfl (Nat.le_of_ble_eq_true rfl) dX10_takes_67 rfl (fun b_15 => ?_)
          refine r_S (own := RX10) (v := (some (.int (f_X10_bits (f_X10_ofPerson (mo0 u_10 (upd u_10.1 (((43 : Int32) + ((2 : Int32) * ps)) + (0 : Int32)).toNatClampNeg ((u_10.1 (((43 : Int32) + ((2 : Int32) * ps)) + (0 : Int32)).toNatClampNeg) - ((1 : Int32) <<< (k &&& 31))))) ps (0 : Int32)))))) (st1 := [.int (f_X10_bits (f_X10_ofPerson (mo0 u_10 (upd u_10.1 (((43 : Int32) + ((2 : Int32) * ps)) + (0 : Int32)).toNatClampNeg ((u_10.1 (((43 : Int32) + ((2 : Int32) * ps)) + (0 : Int32)).toNatClampNeg) - ((1 : Int32) <<< (k &&& 31))))) ps (0 : Int32)))]) (As := [.int (f_X10_ofPerson (mo0 u_10 (upd u_10.1 (((43 : Int32) + ((2 : Int32) * ps)) + (0 : Int32)).toNatClampNeg ((u_10.1 (((43 : Int32) + ((2 : Int32) * ps)) + (0 : Int32)).toNatClampNeg) - ((1 : Int32) <<< (k &&& 31))))) ps (0 : Int32))]) (rest := []) (c_X10_bits l G (f_X10_ofPerson (mo0 u_10 (upd u_10.1 (((43 : Int32) + ((2 : Int32) * ps)) + (0 : Int32)).toNatClampNeg ((u_10.1 (((43 : Int32) + ((2 : Int32) * ps)) + (0 : Int32)).toNatClampNeg) - ((1 : Int32) <<< (k &&& 31))))) ps (0 : Int32))) ⟨hx, hb, hml, hown, hts⟩ g_X10_118 hds_X10_bits hK hST hS hP [] rfl ⟨Nat.le_of_ble_eq_true rfl, Nat.le_of_ble_eq_true rfl⟩ ⟨Nat.le_of_ble_eq_true rfl, Nat.le_of_ble_eq_true rfl⟩ rfl hl.1 rfl (Nat.le_of_ble_eq_true rfl) dX10_takes_70 rfl (fun b_16 => ?_)
          exact w_ret (u := ((f_X10_bits (f_X10_ofPerson (mo0 u_10 (upd u_10.1 (((43 : Int32) + ((2 : Int32) * ps)) + (0 : Int32)).toNatClampNeg ((u_10.1 (((43 : Int32) + ((2 : Int32) * ps)) + (0 : Int32)).toNatClampNeg) - ((1 : Int32) <<< (k &&& 31))))) ps (0 : Int32))), (mo0 u_10 (upd u_10.1 (((43 : Int32) + ((2 : Int32) * ps)) + (0 : Int32)).toNatClampNeg ((u_10.1 (((43 : Int32) + ((2 : Int32) * ps)) + (0 : Int32)).toNatClampNeg) - ((1 : Int32) <<< (k &&& 31))))))) hx hb hr hlk rfl hS rfl hF.symm hP hD (Nat.le_of_ble_eq_true rfl) (Nat.le_of_ble_eq_true rfl) dX10_takes_73
        · exact absurd c_11 (by decide)
      · have hF := hF.trans (if_pos c_8)
        have hok := Eq.mp (if_pos c_8) hok
        refine lv_iconst (v := (1 : Int32)) hx hb dX10_takes_31 (by decide) ?_
        refine lv_goto (tgt := 36) hx hb dX10_takes_32 (by decide) ?_
        refine lv_iconst (v := (2 : Int32)) hx hb dX10_takes_36 (by decide) ?_
        refine w_V (own := RX10) (cs := [wMo G dh0 dh1 dh2 dh3 dh4 dh5 dh6 dh7 u_4]) (rs := []) (As := [.int (1 : Int32), .int (2 : Int32)]) (rest := []) (c_X10_isThrown l G dh0 dh1 dh2 dh3 dh4 dh5 dh6 dh7 H.size u_4 (1 : Int32) (2 : Int32) (rfl)) ⟨hx, hb, hml, hown, hts⟩ g_X10_63 hdv_X10_isThrown hK hST hS hP hD hA [0] [] rfl rfl rfl (k0 := 0) rfl rfl rfl ⟨Nat.le_of_ble_eq_true rfl, Nat.le_of_ble_eq_true rfl⟩ ⟨Nat.le_of_ble_eq_true rfl, Nat.le_of_ble_eq_true rfl⟩ rfl hl.1 rfl (Nat.le_of_ble_eq_true rfl) dX10_takes_37 (fun u_18 H locs huu hP hD hS => ?_)
        have eu_18 := huu
        have hP : va_P G.1 vwCl (fl [wMo G dh0 dh1 dh2 dh3 dh4 dh5 dh6 dh7 u_18]) H := hP
        have hD : va_D A (fl [wMo G dh0 dh1 dh2 dh3 dh4 dh5 dh6 dh7 u_18]) := hD
        refine W.eq (g2 := F0 m 40 ls [.int (1 : Int32)]) rfl ?_
        have hF : f_X10_takes d ps k = ((0 : Int32), u_18) := by subst eu_18; exact hF
        refine lv_if_eq (tgt := 45) hx hb dX10_takes_40 (by decide) (fun c_19 => ?_) (fun c_19 => ?_)
        · exact absurd c_19 (by decide)
        · refine lv_iconst (v := (0 : Int32)) hx hb dX10_takes_43 (by decide) ?_
          exact w_ret (u := ((0 : Int32), u_18)) hx hb hr hlk rfl hS rfl hF.symm hP hD (Nat.le_of_ble_eq_true rfl) (Nat.le_of_ble_eq_true rfl) dX10_takes_44
  · have hF := hF.trans (if_pos c_2)
    have hok := Eq.mp (if_pos c_2) hok
    refine lv_iconst (v := (1 : Int32)) hx hb dX10_takes_9 (by decide) ?_
    refine lv_goto (tgt := 14) hx hb dX10_takes_10 (by decide) ?_
    refine lv_iconst (v := (1 : Int32)) hx hb dX10_takes_14 (by decide) ?_
    refine w_V (own := RX10) (cs := [wMo G dh0 dh1 dh2 dh3 dh4 dh5 dh6 dh7 d]) (rs := []) (As := [.int (1 : Int32), .int (1 : Int32)]) (rest := []) (c_X10_isThrown l G dh0 dh1 dh2 dh3 dh4 dh5 dh6 dh7 s.heap.size d (1 : Int32) (1 : Int32) (rfl)) ⟨hx, hb, hml, hown, hts⟩ g_X10_63 hdv_X10_isThrown hK hST hS hP hD hA [0] [] rfl rfl rfl (k0 := 0) rfl rfl rfl ⟨Nat.le_of_ble_eq_true rfl, Nat.le_of_ble_eq_true rfl⟩ ⟨Nat.le_of_ble_eq_true rfl, Nat.le_of_ble_eq_true rfl⟩ rfl hl.1 rfl (Nat.le_of_ble_eq_true rfl) dX10_takes_15 (fun u_21 H locs huu hP hD hS => ?_)
    have eu_21 := huu
    have hP : va_P G.1 vwCl (fl [wMo G dh0 dh1 dh2 dh3 dh4 dh5 dh6 dh7 u_21]) H := hP
    have hD : va_D A (fl [wMo G dh0 dh1 dh2 dh3 dh4 dh5 dh6 dh7 u_21]) := hD
    refine W.eq (g2 := F0 m 18 ls [.int (1 : Int32)]) rfl ?_
    have hF : f_X10_takes d ps k = ((0 : Int32), u_21) := by subst eu_21; exact hF
    refine lv_if_ne (tgt := 43) hx hb dX10_takes_18 (by decide) (fun c_22 => ?_) (fun c_22 => ?_)
    · refine lv_iconst (v := (0 : Int32)) hx hb dX10_takes_43 (by decide) ?_
      exact w_ret (u := ((0 : Int32), u_21)) hx hb hr hlk rfl hS rfl hF.symm hP hD (Nat.le_of_ble_eq_true rfl) (Nat.le_of_ble_eq_true rfl) dX10_takes_44
    · exact absurd c_22 (by decide)
theorem dX10_takeKey_0 : decode cX10_takeKey 0 = .ok (.aload_n 0, 1) := by decide +kernel
theorem dX10_takeKey_1 : decode cX10_takeKey 1 = .ok (.invokevirtual 56, 3) := by decide +kernel
theorem dX10_takeKey_4 : decode cX10_takeKey 4 = .ok (.aload_n 0, 1) := by decide +kernel
theorem dX10_takeKey_5 : decode cX10_takeKey 5 = .ok (.aload_n 0, 1) := by decide +kernel
theorem dX10_takeKey_6 : decode cX10_takeKey 6 = .ok (.iload_n 1, 1) := by decide +kernel
theorem dX10_takeKey_7 : decode cX10_takeKey 7 = .ok (.iload_n 2, 1) := by decide +kernel
theorem dX10_takeKey_8 : decode cX10_takeKey 8 = .ok (.invokevirtual 124, 3) := by decide +kernel
theorem u_1839 : Cond.methodLink RX10 124 yX10_takes ∈ UW := uw 1839 (by decide +kernel) rfl
theorem u_1841 : Cond.instanceMethod yX10_takes ∈ UW := uw 1841 (by decide +kernel) rfl
theorem u_35 : Cond.selects RX10 yX10_takes yX10_takes ∈ UW := uw 35 (by decide +kernel) rfl
theorem u_1842 : Cond.code yX10_takes cX10_takes 3 (some .int) ∈ UW := uw 1842 (by decide +kernel) rfl
theorem g_X10_124 : GoodIn UW (wsV RX10 124 RX10 yX10_takes (wsU yX10_takes cX10_takes 3 (some .int))) := gV u_1839 u_1841 u_35 u_77 u_1842
theorem hdv_X10_takes : yX10_takes.cls = RX10 ∧ yX10_takes.cls ≠ "java/lang/invoke/MethodHandle" ∧ yX10_takes.cls ≠ "java/lang/invoke/VarHandle" ∧ (parseMethodDescriptor yX10_takes.desc).map (fun d => d.parameters.length) = some 2 := by decide +kernel
theorem dX10_takeKey_11 : decode cX10_takeKey 11 = .ok (.invokevirtual 71, 3) := by decide +kernel
theorem dX10_takeKey_14 : decode cX10_takeKey 14 = .ok (.ireturn, 1) := by decide +kernel
def f_X10_takeKey (d : MoV) (ps : Int32) (k : Int32) : Int32 × MoV := (let u_3 : MoV := (f_X10_keeps d); (let u_6 : Int32 × MoV := (f_X10_takes u_3 ps k); (let u_9 : Int32 × MoV := (f_X10_ends u_6.2 u_6.1); (u_9.1, u_9.2))))
def ok_X10_takeKey (d : MoV) (ps : Int32) (k : Int32) : Prop := (ok_X10_keeps d ∧ (let u_3 : MoV := (f_X10_keeps d); (ok_X10_takes u_3 ps k ∧ (let u_6 : Int32 × MoV := (f_X10_takes u_3 ps k); (ok_X10_ends u_6.2 u_6.1 ∧ True)))))
set_option maxHeartbeats 4000000 in
set_option maxRecDepth 100000 in
theorem c_X10_takeKey (l : Launch) (G : GG) (dh0 : Nat) (dh1 : Nat) (dh2 : Nat) (dh3 : Nat) (dh4 : Nat) (dh5 : Nat) (dh6 : Nat) (dh7 : Nat) (sz : Nat) (d : MoV) (ps : Int32) (k : Int32) (hok : ok_X10_takeKey d ps k) : wMet l yX10_takeKey cX10_takeKey 3 (some .int) 5 0 0 G (fl [wMo G dh0 dh1 dh2 dh3 dh4 dh5 dh6 dh7 d]) [.ref dh0, .int ps, .int k] sz (fun u : Int32 × MoV => some (.int u.1)) (fun u : Int32 × MoV => u = f_X10_takeKey d ps k) (fun u : Int32 × MoV => fl [wMo G dh0 dh1 dh2 dh3 dh4 dh5 dh6 dh7 u.2]) := by
  refine w_start (by decide +kernel) (Nat.le_of_ble_eq_true rfl) ?_
  intro p e s m below meth c A hx hb hr hml hts hown hlk hin hP hD hA hK hST ls hl
  have hS : va_S A s.heap s.heap [] := va_S.rf
  have hown : s.vm.findClass RX10 = some m.cls := hown
  have hl : lv_has ls 3 [(0, .ref dh0), (1, .int ps), (2, .int k)] := hl
  have hF : f_X10_takeKey d ps k = (let u_3 : MoV := (f_X10_keeps d); (let u_6 : Int32 × MoV := (f_X10_takes u_3 ps k); (let u_9 : Int32 × MoV := (f_X10_ends u_6.2 u_6.1); (u_9.1, u_9.2)))) := rfl
  have hok : (ok_X10_keeps d ∧ (let u_3 : MoV := (f_X10_keeps d); (ok_X10_takes u_3 ps k ∧ (let u_6 : Int32 × MoV := (f_X10_takes u_3 ps k); (ok_X10_ends u_6.2 u_6.1 ∧ True))))) := hok
  refine lv_aload_n hx hb dX10_takeKey_0 rfl (lv_at hl 0 rfl) ?_
  have k_1 := hok.1
  have hok := hok.2
  refine w_V (own := RX10) (cs := [wMo G dh0 dh1 dh2 dh3 dh4 dh5 dh6 dh7 d]) (rs := []) (As := []) (rest := []) (c_X10_keeps l G dh0 dh1 dh2 dh3 dh4 dh5 dh6 dh7 s.heap.size d k_1) ⟨hx, hb, hml, hown, hts⟩ g_X10_56 hdv_X10_keeps hK hST hS hP hD hA [0] [] rfl rfl rfl (k0 := 0) rfl rfl rfl ⟨Nat.le_of_ble_eq_true rfl, Nat.le_of_ble_eq_true rfl⟩ ⟨Nat.le_of_ble_eq_true rfl, Nat.le_of_ble_eq_true rfl⟩ rfl hl.1 rfl (Nat.le_of_ble_eq_true rfl) dX10_takeKey_1 (fun u_3 H locs huu hP hD hS => ?_)
  have eu_3 := huu
  have hP : va_P G.1 vwCl (fl [wMo G dh0 dh1 dh2 dh3 dh4 dh5 dh6 dh7 u_3]) H := hP
  have hD : va_D A (fl [wMo G dh0 dh1 dh2 dh3 dh4 dh5 dh6 dh7 u_3]) := hD
  refine W.eq (g2 := F0 m 4 ls []) rfl ?_
  have hF : f_X10_takeKey d ps k = (let u_6 : Int32 × MoV := (f_X10_takes u_3 ps k); (let u_9 : Int32 × MoV := (f_X10_ends u_6.2 u_6.1); (u_9.1, u_9.2))) := by subst eu_3; exact hF
  have hok : (ok_X10_takes u_3 ps k ∧ (let u_6 : Int32 × MoV := (f_X10_takes u_3 ps k); (ok_X10_ends u_6.2 u_6.1 ∧ True))) := by subst eu_3; exact hok
  refine lv_aload_n hx hb dX10_takeKey_4 rfl (lv_at hl 0 rfl) ?_
  refine lv_aload_n hx hb dX10_takeKey_5 rfl (lv_at hl 0 rfl) ?_
  refine lv_iload_n hx hb dX10_takeKey_6 rfl (lv_at hl 1 rfl) ?_
  refine lv_iload_n hx hb dX10_takeKey_7 rfl (lv_at hl 2 rfl) ?_
  have k_4 := hok.1
  have hok := hok.2
  refine w_V (own := RX10) (cs := [wMo G dh0 dh1 dh2 dh3 dh4 dh5 dh6 dh7 u_3]) (rs := []) (As := [.int ps, .int k]) (rest := [.ref dh0]) (c_X10_takes l G dh0 dh1 dh2 dh3 dh4 dh5 dh6 dh7 H.size u_3 ps k k_4) ⟨hx, hb, hml, hown, hts⟩ g_X10_124 hdv_X10_takes hK hST hS hP hD hA [0] [] rfl rfl rfl (k0 := 0) rfl rfl rfl ⟨Nat.le_of_ble_eq_true rfl, Nat.le_of_ble_eq_true rfl⟩ ⟨Nat.le_of_ble_eq_true rfl, Nat.le_of_ble_eq_true rfl⟩ rfl hl.1 rfl (Nat.le_of_ble_eq_true rfl) dX10_takeKey_8 (fun u_6 H locs huu hP hD hS => ?_)
  have eu_6 := huu
  have hP : va_P G.1 vwCl (fl [wMo G dh0 dh1 dh2 dh3 dh4 dh5 dh6 dh7 u_6.2]) H := hP
  have hD : va_D A (fl [wMo G dh0 dh1 dh2 dh3 dh4 dh5 dh6 dh7 u_6.2]) := hD
  refine W.eq (g2 := F0 m 11 ls [.int u_6.1, .ref dh0]) rfl ?_
  have hF : f_X10_takeKey d ps k = (let u_9 : Int32 × MoV := (f_X10_ends u_6.2 u_6.1); (u_9.1, u_9.2)) := by subst eu_6; exact hF
  have hok : (ok_X10_ends u_6.2 u_6.1 ∧ True) := by subst eu_6; exact hok
  have k_7 := hok.1
  have hok := hok.2
  refine w_V (own := RX10) (cs := [wMo G dh0 dh1 dh2 dh3 dh4 dh5 dh6 dh7 u_6.2]) (rs := []) (As := [.int u_6.1]) (rest := []) (c_X10_ends l G dh0 dh1 dh2 dh3 dh4 dh5 dh6 dh7 H.size u_6.2 u_6.1 k_7) ⟨hx, hb, hml, hown, hts⟩ g_X10_71 hdv_X10_ends hK hST hS hP hD hA [0] [] rfl rfl rfl (k0 := 0) rfl rfl rfl ⟨Nat.le_of_ble_eq_true rfl, Nat.le_of_ble_eq_true rfl⟩ ⟨Nat.le_of_ble_eq_true rfl, Nat.le_of_ble_eq_true rfl⟩ rfl hl.1 rfl (Nat.le_of_ble_eq_true rfl) dX10_takeKey_11 (fun u_9 H locs huu hP hD hS => ?_)
  have eu_9 := huu
  have hP : va_P G.1 vwCl (fl [wMo G dh0 dh1 dh2 dh3 dh4 dh5 dh6 dh7 u_9.2]) H := hP
  have hD : va_D A (fl [wMo G dh0 dh1 dh2 dh3 dh4 dh5 dh6 dh7 u_9.2]) := hD
  refine W.eq (g2 := F0 m 14 ls [.int u_9.1]) rfl ?_
  have hF : f_X10_takeKey d ps k = (u_9.1, u_9.2) := by subst eu_9; exact hF
  exact w_ret (u := (u_9.1, u_9.2)) hx hb hr hlk rfl hS rfl hF.symm hP hD (Nat.le_of_ble_eq_true rfl) (Nat.le_of_ble_eq_true rfl) dX10_takeKey_14
