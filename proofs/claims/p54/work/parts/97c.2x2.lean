theorem dL_isWell_0 : decode cL_isWell 0 = .ok (.iconst 0, 1) := by decide +kernel
theorem dL_isWell_1 : decode cL_isWell 1 = .ok (.istore_n 1, 1) := by decide +kernel
theorem dL_isWell_2 : decode cL_isWell 2 = .ok (.iconst 0, 1) := by decide +kernel
theorem dL_isWell_3 : decode cL_isWell 3 = .ok (.istore_n 2, 1) := by decide +kernel
theorem dL_isWell_4 : decode cL_isWell 4 = .ok (.iconst 0, 1) := by decide +kernel
theorem dL_isWell_5 : decode cL_isWell 5 = .ok (.istore_n 3, 1) := by decide +kernel
theorem dL_isWell_6 : decode cL_isWell 6 = .ok (.iload_n 3, 1) := by decide +kernel
theorem dL_isWell_7 : decode cL_isWell 7 = .ok (.iconst 5, 1) := by decide +kernel
theorem dL_isWell_8 : decode cL_isWell 8 = .ok (.if_icmp .ge 17, 3) := by decide +kernel
theorem dL_isWell_11 : decode cL_isWell 11 = .ok (.iload_n 2, 1) := by decide +kernel
theorem dL_isWell_12 : decode cL_isWell 12 = .ok (.aload_n 0, 1) := by decide +kernel
theorem dL_isWell_13 : decode cL_isWell 13 = .ok (.iload_n 3, 1) := by decide +kernel
theorem dL_isWell_14 : decode cL_isWell 14 = .ok (.invokevirtual 208, 3) := by decide +kernel
theorem dL_isWell_17 : decode cL_isWell 17 = .ok (.iadd, 1) := by decide +kernel
theorem dL_isWell_18 : decode cL_isWell 18 = .ok (.istore_n 2, 1) := by decide +kernel
theorem dL_isWell_19 : decode cL_isWell 19 = .ok (.iinc 3 1, 3) := by decide +kernel
theorem dL_isWell_22 : decode cL_isWell 22 = .ok (.goto (-16), 3) := by decide +kernel
theorem dL_isWell_25 : decode cL_isWell 25 = .ok (.iconst 0, 1) := by decide +kernel
theorem dL_isWell_26 : decode cL_isWell 26 = .ok (.istore_n 3, 1) := by decide +kernel
theorem dL_isWell_27 : decode cL_isWell 27 = .ok (.iload_n 3, 1) := by decide +kernel
theorem dL_isWell_28 : decode cL_isWell 28 = .ok (.aload_n 0, 1) := by decide +kernel
theorem dL_isWell_29 : decode cL_isWell 29 = .ok (.invokevirtual 205, 3) := by decide +kernel
theorem dL_isWell_32 : decode cL_isWell 32 = .ok (.if_icmp .ge 165, 3) := by decide +kernel
theorem dL_isWell_35 : decode cL_isWell 35 = .ok (.iconst 0, 1) := by decide +kernel
theorem dL_isWell_36 : decode cL_isWell 36 = .ok (.istore 4, 2) := by decide +kernel
theorem dL_isWell_38 : decode cL_isWell 38 = .ok (.iconst 0, 1) := by decide +kernel
theorem dL_isWell_39 : decode cL_isWell 39 = .ok (.istore 5, 2) := by decide +kernel
theorem dL_isWell_41 : decode cL_isWell 41 = .ok (.iload_n 1, 1) := by decide +kernel
theorem dL_isWell_42 : decode cL_isWell 42 = .ok (.aload_n 0, 1) := by decide +kernel
theorem dL_isWell_43 : decode cL_isWell 43 = .ok (.iload_n 3, 1) := by decide +kernel
theorem dL_isWell_44 : decode cL_isWell 44 = .ok (.invokevirtual 230, 3) := by decide +kernel
theorem dL_isWell_47 : decode cL_isWell 47 = .ok (.iadd, 1) := by decide +kernel
theorem dL_isWell_48 : decode cL_isWell 48 = .ok (.istore_n 1, 1) := by decide +kernel
theorem dL_isWell_49 : decode cL_isWell 49 = .ok (.iconst 0, 1) := by decide +kernel
theorem dL_isWell_50 : decode cL_isWell 50 = .ok (.istore 6, 2) := by decide +kernel
theorem dL_isWell_52 : decode cL_isWell 52 = .ok (.iload 6, 2) := by decide +kernel
theorem dL_isWell_54 : decode cL_isWell 54 = .ok (.aload_n 0, 1) := by decide +kernel
theorem dL_isWell_55 : decode cL_isWell 55 = .ok (.invokevirtual 202, 3) := by decide +kernel
theorem dL_isWell_58 : decode cL_isWell 58 = .ok (.if_icmp .ge 111, 3) := by decide +kernel
theorem dL_isWell_61 : decode cL_isWell 61 = .ok (.aload_n 0, 1) := by decide +kernel
theorem dL_isWell_62 : decode cL_isWell 62 = .ok (.iload_n 3, 1) := by decide +kernel
theorem dL_isWell_63 : decode cL_isWell 63 = .ok (.iload 6, 2) := by decide +kernel
theorem dL_isWell_65 : decode cL_isWell 65 = .ok (.invokestatic 247, 3) := by decide +kernel
theorem gh_L_247_c : Cond.codeWith yL_wouldEnter cL_wouldEnter 4 (some .int) [(0, 6, 7, 25)] ∈ UW := uw 777 (by decide +kernel) rfl
theorem u_775 : Cond.methodLink RL 247 yL_wouldEnter ∈ UW := uw 775 (by decide +kernel) rfl
theorem u_776 : Cond.static yL_wouldEnter ∈ UW := uw 776 (by decide +kernel) rfl
theorem gh_L_247 : GoodIn UW (va_wsS RL 247 yL_wouldEnter (Cond.codeWith yL_wouldEnter cL_wouldEnter 4 (some .int) [(0, 6, 7, 25)] :: UW)) := gSH u_775 u_776 u_20 gh_L_247_c
theorem hds_L_wouldEnter : yL_wouldEnter.cls ≠ "java/lang/invoke/MethodHandle" ∧ yL_wouldEnter.cls ≠ "java/lang/invoke/VarHandle" ∧ (parseMethodDescriptor yL_wouldEnter.desc).map (fun d => d.parameters.length) = some 3 := by decide +kernel
theorem dL_isWell_68 : decode cL_isWell 68 = .ok (.istore 7, 2) := by decide +kernel
theorem dL_isWell_70 : decode cL_isWell 70 = .ok (.iload 4, 2) := by decide +kernel
theorem dL_isWell_72 : decode cL_isWell 72 = .ok (.aload_n 0, 1) := by decide +kernel
theorem dL_isWell_73 : decode cL_isWell 73 = .ok (.iload_n 3, 1) := by decide +kernel
theorem dL_isWell_74 : decode cL_isWell 74 = .ok (.aload_n 0, 1) := by decide +kernel
theorem dL_isWell_75 : decode cL_isWell 75 = .ok (.iload 6, 2) := by decide +kernel
theorem dL_isWell_77 : decode cL_isWell 77 = .ok (.invokevirtual 214, 3) := by decide +kernel
theorem dL_isWell_80 : decode cL_isWell 80 = .ok (.invokevirtual 233, 3) := by decide +kernel
theorem dL_isWell_83 : decode cL_isWell 83 = .ok (.ifCond .eq 7, 3) := by decide +kernel
theorem dL_isWell_90 : decode cL_isWell 90 = .ok (.iconst 0, 1) := by decide +kernel
theorem dL_isWell_91 : decode cL_isWell 91 = .ok (.iadd, 1) := by decide +kernel
theorem dL_isWell_92 : decode cL_isWell 92 = .ok (.istore 4, 2) := by decide +kernel
theorem dL_isWell_94 : decode cL_isWell 94 = .ok (.iload 5, 2) := by decide +kernel
theorem dL_isWell_96 : decode cL_isWell 96 = .ok (.iload 7, 2) := by decide +kernel
theorem dL_isWell_98 : decode cL_isWell 98 = .ok (.ifCond .ne 7, 3) := by decide +kernel
theorem dL_isWell_105 : decode cL_isWell 105 = .ok (.iconst 0, 1) := by decide +kernel
theorem dL_isWell_106 : decode cL_isWell 106 = .ok (.iadd, 1) := by decide +kernel
theorem dL_isWell_107 : decode cL_isWell 107 = .ok (.istore 5, 2) := by decide +kernel
theorem dL_isWell_109 : decode cL_isWell 109 = .ok (.iload 7, 2) := by decide +kernel
theorem dL_isWell_111 : decode cL_isWell 111 = .ok (.ifCond .ne 7, 3) := by decide +kernel
theorem dL_isWell_118 : decode cL_isWell 118 = .ok (.iconst 0, 1) := by decide +kernel
theorem dL_isWell_119 : decode cL_isWell 119 = .ok (.aload_n 0, 1) := by decide +kernel
theorem dL_isWell_120 : decode cL_isWell 120 = .ok (.iload 6, 2) := by decide +kernel
theorem dL_isWell_122 : decode cL_isWell 122 = .ok (.invokevirtual 220, 3) := by decide +kernel
theorem dL_isWell_125 : decode cL_isWell 125 = .ok (.ifCond .eq 21, 3) := by decide +kernel
theorem dL_isWell_146 : decode cL_isWell 146 = .ok (.iconst 0, 1) := by decide +kernel
theorem dL_isWell_147 : decode cL_isWell 147 = .ok (.if_icmp .ne 14, 3) := by decide +kernel
theorem dL_isWell_150 : decode cL_isWell 150 = .ok (.iload 7, 2) := by decide +kernel
theorem dL_isWell_152 : decode cL_isWell 152 = .ok (.ifCond .lt 9, 3) := by decide +kernel
theorem dL_isWell_155 : decode cL_isWell 155 = .ok (.iload 7, 2) := by decide +kernel
theorem dL_isWell_157 : decode cL_isWell 157 = .ok (.iconst 4, 1) := by decide +kernel
theorem dL_isWell_158 : decode cL_isWell 158 = .ok (.if_icmp .le 5, 3) := by decide +kernel
theorem dL_isWell_163 : decode cL_isWell 163 = .ok (.iinc 6 1, 3) := by decide +kernel
theorem dL_isWell_166 : decode cL_isWell 166 = .ok (.goto (-114), 3) := by decide +kernel
theorem dL_isWell_128 : decode cL_isWell 128 = .ok (.aload_n 0, 1) := by decide +kernel
theorem dL_isWell_129 : decode cL_isWell 129 = .ok (.iload_n 3, 1) := by decide +kernel
theorem dL_isWell_130 : decode cL_isWell 130 = .ok (.aload_n 0, 1) := by decide +kernel
theorem dL_isWell_131 : decode cL_isWell 131 = .ok (.iload 6, 2) := by decide +kernel
theorem dL_isWell_133 : decode cL_isWell 133 = .ok (.invokevirtual 214, 3) := by decide +kernel
theorem dL_isWell_136 : decode cL_isWell 136 = .ok (.invokevirtual 233, 3) := by decide +kernel
theorem dL_isWell_139 : decode cL_isWell 139 = .ok (.ifCond .eq 7, 3) := by decide +kernel
theorem dL_isWell_101 : decode cL_isWell 101 = .ok (.iconst 1, 1) := by decide +kernel
theorem dL_isWell_102 : decode cL_isWell 102 = .ok (.goto 4, 3) := by decide +kernel
theorem dL_isWell_114 : decode cL_isWell 114 = .ok (.iconst 1, 1) := by decide +kernel
theorem dL_isWell_115 : decode cL_isWell 115 = .ok (.goto 4, 3) := by decide +kernel
theorem dL_isWell_86 : decode cL_isWell 86 = .ok (.iconst 1, 1) := by decide +kernel
theorem dL_isWell_87 : decode cL_isWell 87 = .ok (.goto 4, 3) := by decide +kernel
theorem dL_isWell_142 : decode cL_isWell 142 = .ok (.iconst 1, 1) := by decide +kernel
theorem dL_isWell_143 : decode cL_isWell 143 = .ok (.goto 4, 3) := by decide +kernel
theorem dL_isWell_169 : decode cL_isWell 169 = .ok (.aload_n 0, 1) := by decide +kernel
theorem dL_isWell_170 : decode cL_isWell 170 = .ok (.iload_n 3, 1) := by decide +kernel
theorem dL_isWell_171 : decode cL_isWell 171 = .ok (.invokevirtual 249, 3) := by decide +kernel
theorem u_1520 : Cond.methodLink RL 249 yX9_doorsOfRing ∈ UW := uw 1520 (by decide +kernel) rfl
theorem u_1521 : Cond.instanceMethod yX9_doorsOfRing ∈ UW := uw 1521 (by decide +kernel) rfl
theorem u_1522 : Cond.selects RX9 yX9_doorsOfRing yX9_doorsOfRing ∈ UW := uw 1522 (by decide +kernel) rfl
theorem u_1523 : Cond.code yX9_doorsOfRing cX9_doorsOfRing 2 (some .int) ∈ UW := uw 1523 (by decide +kernel) rfl
theorem g_L_249 : GoodIn UW (wsV RL 249 RX9 yX9_doorsOfRing (wsU yX9_doorsOfRing cX9_doorsOfRing 2 (some .int))) := gV u_1520 u_1521 u_1522 u_21 u_1523
theorem hdv_X9_doorsOfRing : yX9_doorsOfRing.cls = RX9 ∧ yX9_doorsOfRing.cls ≠ "java/lang/invoke/MethodHandle" ∧ yX9_doorsOfRing.cls ≠ "java/lang/invoke/VarHandle" ∧ (parseMethodDescriptor yX9_doorsOfRing.desc).map (fun d => d.parameters.length) = some 1 := by decide +kernel
theorem dL_isWell_174 : decode cL_isWell 174 = .ok (.iload 4, 2) := by decide +kernel
theorem dL_isWell_176 : decode cL_isWell 176 = .ok (.if_icmp .ne 13, 3) := by decide +kernel
theorem dL_isWell_179 : decode cL_isWell 179 = .ok (.aload_n 0, 1) := by decide +kernel
theorem dL_isWell_180 : decode cL_isWell 180 = .ok (.iload_n 3, 1) := by decide +kernel
theorem dL_isWell_181 : decode cL_isWell 181 = .ok (.invokevirtual 252, 3) := by decide +kernel
theorem u_1528 : Cond.methodLink RL 252 yX9_openDoorsFor ∈ UW := uw 1528 (by decide +kernel) rfl
theorem u_1529 : Cond.instanceMethod yX9_openDoorsFor ∈ UW := uw 1529 (by decide +kernel) rfl
theorem u_1530 : Cond.selects RX9 yX9_openDoorsFor yX9_openDoorsFor ∈ UW := uw 1530 (by decide +kernel) rfl
theorem u_1531 : Cond.code yX9_openDoorsFor cX9_openDoorsFor 2 (some .int) ∈ UW := uw 1531 (by decide +kernel) rfl
theorem g_L_252 : GoodIn UW (wsV RL 252 RX9 yX9_openDoorsFor (wsU yX9_openDoorsFor cX9_openDoorsFor 2 (some .int))) := gV u_1528 u_1529 u_1530 u_21 u_1531
theorem hdv_X9_openDoorsFor : yX9_openDoorsFor.cls = RX9 ∧ yX9_openDoorsFor.cls ≠ "java/lang/invoke/MethodHandle" ∧ yX9_openDoorsFor.cls ≠ "java/lang/invoke/VarHandle" ∧ (parseMethodDescriptor yX9_openDoorsFor.desc).map (fun d => d.parameters.length) = some 1 := by decide +kernel
theorem dL_isWell_184 : decode cL_isWell 184 = .ok (.iload 5, 2) := by decide +kernel
theorem dL_isWell_186 : decode cL_isWell 186 = .ok (.if_icmp .eq 5, 3) := by decide +kernel
theorem dL_isWell_191 : decode cL_isWell 191 = .ok (.iinc 3 1, 3) := by decide +kernel
theorem dL_isWell_194 : decode cL_isWell 194 = .ok (.goto (-167), 3) := by decide +kernel
theorem dL_isWell_197 : decode cL_isWell 197 = .ok (.iconst 0, 1) := by decide +kernel
theorem dL_isWell_198 : decode cL_isWell 198 = .ok (.istore_n 3, 1) := by decide +kernel
theorem dL_isWell_199 : decode cL_isWell 199 = .ok (.iload_n 3, 1) := by decide +kernel
theorem dL_isWell_200 : decode cL_isWell 200 = .ok (.aload_n 0, 1) := by decide +kernel
theorem dL_isWell_201 : decode cL_isWell 201 = .ok (.invokevirtual 202, 3) := by decide +kernel
theorem dL_isWell_204 : decode cL_isWell 204 = .ok (.if_icmp .ge 170, 3) := by decide +kernel
theorem dL_isWell_207 : decode cL_isWell 207 = .ok (.iconst 0, 1) := by decide +kernel
theorem dL_isWell_208 : decode cL_isWell 208 = .ok (.istore 4, 2) := by decide +kernel
theorem dL_isWell_210 : decode cL_isWell 210 = .ok (.iconst 0, 1) := by decide +kernel
theorem dL_isWell_211 : decode cL_isWell 211 = .ok (.istore 5, 2) := by decide +kernel
theorem dL_isWell_213 : decode cL_isWell 213 = .ok (.iload 5, 2) := by decide +kernel
theorem dL_isWell_215 : decode cL_isWell 215 = .ok (.bipush 24, 2) := by decide +kernel
theorem dL_isWell_217 : decode cL_isWell 217 = .ok (.if_icmp .ge 29, 3) := by decide +kernel
theorem dL_isWell_220 : decode cL_isWell 220 = .ok (.iload 4, 2) := by decide +kernel
theorem dL_isWell_222 : decode cL_isWell 222 = .ok (.aload_n 0, 1) := by decide +kernel
theorem dL_isWell_223 : decode cL_isWell 223 = .ok (.iload_n 3, 1) := by decide +kernel
theorem dL_isWell_224 : decode cL_isWell 224 = .ok (.iload 5, 2) := by decide +kernel
theorem dL_isWell_226 : decode cL_isWell 226 = .ok (.invokevirtual 255, 3) := by decide +kernel
theorem u_1536 : Cond.methodLink RL 255 yX9_isHourOf ∈ UW := uw 1536 (by decide +kernel) rfl
theorem u_1537 : Cond.instanceMethod yX9_isHourOf ∈ UW := uw 1537 (by decide +kernel) rfl
theorem u_1538 : Cond.selects RX9 yX9_isHourOf yX9_isHourOf ∈ UW := uw 1538 (by decide +kernel) rfl
theorem u_1539 : Cond.code yX9_isHourOf cX9_isHourOf 3 (some .boolean) ∈ UW := uw 1539 (by decide +kernel) rfl
theorem g_L_255 : GoodIn UW (wsV RL 255 RX9 yX9_isHourOf (wsU yX9_isHourOf cX9_isHourOf 3 (some .boolean))) := gV u_1536 u_1537 u_1538 u_21 u_1539
theorem hdv_X9_isHourOf : yX9_isHourOf.cls = RX9 ∧ yX9_isHourOf.cls ≠ "java/lang/invoke/MethodHandle" ∧ yX9_isHourOf.cls ≠ "java/lang/invoke/VarHandle" ∧ (parseMethodDescriptor yX9_isHourOf.desc).map (fun d => d.parameters.length) = some 2 := by decide +kernel
theorem dL_isWell_229 : decode cL_isWell 229 = .ok (.ifCond .eq 7, 3) := by decide +kernel
theorem dL_isWell_236 : decode cL_isWell 236 = .ok (.iconst 0, 1) := by decide +kernel
theorem dL_isWell_237 : decode cL_isWell 237 = .ok (.iadd, 1) := by decide +kernel
theorem dL_isWell_238 : decode cL_isWell 238 = .ok (.istore 4, 2) := by decide +kernel
theorem dL_isWell_240 : decode cL_isWell 240 = .ok (.iinc 5 1, 3) := by decide +kernel
theorem dL_isWell_243 : decode cL_isWell 243 = .ok (.goto (-30), 3) := by decide +kernel
theorem dL_isWell_232 : decode cL_isWell 232 = .ok (.iconst 1, 1) := by decide +kernel
theorem dL_isWell_233 : decode cL_isWell 233 = .ok (.goto 4, 3) := by decide +kernel
theorem dL_isWell_246 : decode cL_isWell 246 = .ok (.aload_n 0, 1) := by decide +kernel
theorem dL_isWell_247 : decode cL_isWell 247 = .ok (.iload_n 3, 1) := by decide +kernel
theorem dL_isWell_248 : decode cL_isWell 248 = .ok (.invokestatic 258, 3) := by decide +kernel
theorem gh_L_258_c : Cond.codeWith yL_hoursUntilUnlocked cL_hoursUntilUnlocked 3 (some .int) [(0, 5, 6, 25), (0, 5, 10, 39)] ∈ UW := uw 839 (by decide +kernel) rfl
theorem u_837 : Cond.methodLink RL 258 yL_hoursUntilUnlocked ∈ UW := uw 837 (by decide +kernel) rfl
theorem u_838 : Cond.static yL_hoursUntilUnlocked ∈ UW := uw 838 (by decide +kernel) rfl
theorem gh_L_258 : GoodIn UW (va_wsS RL 258 yL_hoursUntilUnlocked (Cond.codeWith yL_hoursUntilUnlocked cL_hoursUntilUnlocked 3 (some .int) [(0, 5, 6, 25), (0, 5, 10, 39)] :: UW)) := gSH u_837 u_838 u_20 gh_L_258_c
theorem hds_L_hoursUntilUnlocked : yL_hoursUntilUnlocked.cls ≠ "java/lang/invoke/MethodHandle" ∧ yL_hoursUntilUnlocked.cls ≠ "java/lang/invoke/VarHandle" ∧ (parseMethodDescriptor yL_hoursUntilUnlocked.desc).map (fun d => d.parameters.length) = some 2 := by decide +kernel
theorem dL_isWell_251 : decode cL_isWell 251 = .ok (.istore 5, 2) := by decide +kernel
theorem dL_isWell_253 : decode cL_isWell 253 = .ok (.aload_n 0, 1) := by decide +kernel
theorem dL_isWell_254 : decode cL_isWell 254 = .ok (.iload_n 3, 1) := by decide +kernel
theorem dL_isWell_255 : decode cL_isWell 255 = .ok (.invokevirtual 211, 3) := by decide +kernel
theorem dL_isWell_258 : decode cL_isWell 258 = .ok (.aload_n 0, 1) := by decide +kernel
theorem dL_isWell_259 : decode cL_isWell 259 = .ok (.aload_n 0, 1) := by decide +kernel
theorem dL_isWell_260 : decode cL_isWell 260 = .ok (.invokevirtual 149, 3) := by decide +kernel
theorem dL_isWell_263 : decode cL_isWell 263 = .ok (.invokevirtual 244, 3) := by decide +kernel
theorem dL_isWell_266 : decode cL_isWell 266 = .ok (.ishr, 1) := by decide +kernel
theorem dL_isWell_267 : decode cL_isWell 267 = .ok (.iconst 1, 1) := by decide +kernel
theorem dL_isWell_268 : decode cL_isWell 268 = .ok (.iand, 1) := by decide +kernel
theorem dL_isWell_269 : decode cL_isWell 269 = .ok (.iconst 1, 1) := by decide +kernel
theorem dL_isWell_270 : decode cL_isWell 270 = .ok (.if_icmp .ne 7, 3) := by decide +kernel
theorem dL_isWell_277 : decode cL_isWell 277 = .ok (.iconst 0, 1) := by decide +kernel
theorem dL_isWell_278 : decode cL_isWell 278 = .ok (.istore 6, 2) := by decide +kernel
theorem dL_isWell_280 : decode cL_isWell 280 = .ok (.aload_n 0, 1) := by decide +kernel
theorem dL_isWell_281 : decode cL_isWell 281 = .ok (.iload_n 3, 1) := by decide +kernel
theorem dL_isWell_282 : decode cL_isWell 282 = .ok (.invokevirtual 217, 3) := by decide +kernel
theorem dL_isWell_285 : decode cL_isWell 285 = .ok (.iload 4, 2) := by decide +kernel
theorem dL_isWell_287 : decode cL_isWell 287 = .ok (.if_icmp .ne 79, 3) := by decide +kernel
theorem dL_isWell_290 : decode cL_isWell 290 = .ok (.iload 4, 2) := by decide +kernel
theorem dL_isWell_292 : decode cL_isWell 292 = .ok (.iconst 1, 1) := by decide +kernel
theorem dL_isWell_293 : decode cL_isWell 293 = .ok (.if_icmp .lt 73, 3) := by decide +kernel
theorem dL_isWell_296 : decode cL_isWell 296 = .ok (.iload 5, 2) := by decide +kernel
theorem dL_isWell_298 : decode cL_isWell 298 = .ok (.aload_n 0, 1) := by decide +kernel
theorem dL_isWell_299 : decode cL_isWell 299 = .ok (.iload_n 3, 1) := by decide +kernel
theorem dL_isWell_300 : decode cL_isWell 300 = .ok (.invokestatic 260, 3) := by decide +kernel
theorem gh_L_260_c : Cond.codeWith yL_hoursUntilUnlockedByDays cL_hoursUntilUnlockedByDays 3 (some .int) [(0, 5, 6, 25), (0, 5, 10, 39)] ∈ UW := uw 1543 (by decide +kernel) rfl
theorem u_1541 : Cond.methodLink RL 260 yL_hoursUntilUnlockedByDays ∈ UW := uw 1541 (by decide +kernel) rfl
theorem u_1542 : Cond.static yL_hoursUntilUnlockedByDays ∈ UW := uw 1542 (by decide +kernel) rfl
theorem gh_L_260 : GoodIn UW (va_wsS RL 260 yL_hoursUntilUnlockedByDays (Cond.codeWith yL_hoursUntilUnlockedByDays cL_hoursUntilUnlockedByDays 3 (some .int) [(0, 5, 6, 25), (0, 5, 10, 39)] :: UW)) := gSH u_1541 u_1542 u_20 gh_L_260_c
theorem hds_L_hoursUntilUnlockedByDays : yL_hoursUntilUnlockedByDays.cls ≠ "java/lang/invoke/MethodHandle" ∧ yL_hoursUntilUnlockedByDays.cls ≠ "java/lang/invoke/VarHandle" ∧ (parseMethodDescriptor yL_hoursUntilUnlockedByDays.desc).map (fun d => d.parameters.length) = some 2 := by decide +kernel
theorem dL_isWell_303 : decode cL_isWell 303 = .ok (.if_icmp .ne 63, 3) := by decide +kernel
theorem dL_isWell_306 : decode cL_isWell 306 = .ok (.iload 5, 2) := by decide +kernel
theorem dL_isWell_308 : decode cL_isWell 308 = .ok (.ifCond .ne 7, 3) := by decide +kernel
theorem dL_isWell_315 : decode cL_isWell 315 = .ok (.iconst 0, 1) := by decide +kernel
theorem dL_isWell_316 : decode cL_isWell 316 = .ok (.aload_n 0, 1) := by decide +kernel
theorem dL_isWell_317 : decode cL_isWell 317 = .ok (.iload_n 3, 1) := by decide +kernel
theorem dL_isWell_318 : decode cL_isWell 318 = .ok (.invokevirtual 220, 3) := by decide +kernel
theorem dL_isWell_321 : decode cL_isWell 321 = .ok (.if_icmp .ne 45, 3) := by decide +kernel
theorem dL_isWell_324 : decode cL_isWell 324 = .ok (.aload_n 0, 1) := by decide +kernel
theorem dL_isWell_325 : decode cL_isWell 325 = .ok (.iload_n 3, 1) := by decide +kernel
theorem dL_isWell_326 : decode cL_isWell 326 = .ok (.aload_n 0, 1) := by decide +kernel
theorem dL_isWell_327 : decode cL_isWell 327 = .ok (.invokevirtual 149, 3) := by decide +kernel
theorem dL_isWell_330 : decode cL_isWell 330 = .ok (.invokevirtual 262, 3) := by decide +kernel
theorem u_1561 : Cond.methodLink RL 262 yX9_hasException ∈ UW := uw 1561 (by decide +kernel) rfl
theorem u_1562 : Cond.instanceMethod yX9_hasException ∈ UW := uw 1562 (by decide +kernel) rfl
theorem u_1563 : Cond.selects RX9 yX9_hasException yX9_hasException ∈ UW := uw 1563 (by decide +kernel) rfl
theorem u_1564 : Cond.code yX9_hasException cX9_hasException 3 (some .boolean) ∈ UW := uw 1564 (by decide +kernel) rfl
theorem g_L_262 : GoodIn UW (wsV RL 262 RX9 yX9_hasException (wsU yX9_hasException cX9_hasException 3 (some .boolean))) := gV u_1561 u_1562 u_1563 u_21 u_1564
theorem hdv_X9_hasException : yX9_hasException.cls = RX9 ∧ yX9_hasException.cls ≠ "java/lang/invoke/MethodHandle" ∧ yX9_hasException.cls ≠ "java/lang/invoke/VarHandle" ∧ (parseMethodDescriptor yX9_hasException.desc).map (fun d => d.parameters.length) = some 2 := by decide +kernel
theorem dL_isWell_333 : decode cL_isWell 333 = .ok (.ifCond .ne 35, 3) := by decide +kernel
theorem dL_isWell_368 : decode cL_isWell 368 = .ok (.iinc 3 1, 3) := by decide +kernel
theorem dL_isWell_371 : decode cL_isWell 371 = .ok (.goto (-172), 3) := by decide +kernel
theorem dL_isWell_336 : decode cL_isWell 336 = .ok (.aload_n 0, 1) := by decide +kernel
theorem dL_isWell_337 : decode cL_isWell 337 = .ok (.iload_n 3, 1) := by decide +kernel
theorem dL_isWell_338 : decode cL_isWell 338 = .ok (.invokevirtual 220, 3) := by decide +kernel
theorem dL_isWell_341 : decode cL_isWell 341 = .ok (.iload 6, 2) := by decide +kernel
theorem dL_isWell_343 : decode cL_isWell 343 = .ok (.ifCond .eq 19, 3) := by decide +kernel
theorem dL_isWell_362 : decode cL_isWell 362 = .ok (.iconst 0, 1) := by decide +kernel
theorem dL_isWell_363 : decode cL_isWell 363 = .ok (.if_icmp .eq 5, 3) := by decide +kernel
theorem dL_isWell_311 : decode cL_isWell 311 = .ok (.iconst 1, 1) := by decide +kernel
theorem dL_isWell_312 : decode cL_isWell 312 = .ok (.goto 4, 3) := by decide +kernel
theorem dL_isWell_273 : decode cL_isWell 273 = .ok (.iconst 1, 1) := by decide +kernel
theorem dL_isWell_274 : decode cL_isWell 274 = .ok (.goto 4, 3) := by decide +kernel
theorem dL_isWell_346 : decode cL_isWell 346 = .ok (.aload_n 0, 1) := by decide +kernel
theorem dL_isWell_347 : decode cL_isWell 347 = .ok (.iload_n 3, 1) := by decide +kernel
theorem dL_isWell_348 : decode cL_isWell 348 = .ok (.aload_n 0, 1) := by decide +kernel
theorem dL_isWell_349 : decode cL_isWell 349 = .ok (.invokevirtual 199, 3) := by decide +kernel
theorem dL_isWell_352 : decode cL_isWell 352 = .ok (.invokevirtual 255, 3) := by decide +kernel
theorem dL_isWell_355 : decode cL_isWell 355 = .ok (.ifCond .eq 7, 3) := by decide +kernel
theorem dL_isWell_358 : decode cL_isWell 358 = .ok (.iconst 1, 1) := by decide +kernel
theorem dL_isWell_359 : decode cL_isWell 359 = .ok (.goto 4, 3) := by decide +kernel
theorem dL_isWell_374 : decode cL_isWell 374 = .ok (.iconst 1, 1) := by decide +kernel
theorem dL_isWell_375 : decode cL_isWell 375 = .ok (.istore_n 3, 1) := by decide +kernel
theorem dL_isWell_376 : decode cL_isWell 376 = .ok (.iload_n 3, 1) := by decide +kernel
theorem dL_isWell_377 : decode cL_isWell 377 = .ok (.aload_n 0, 1) := by decide +kernel
theorem dL_isWell_378 : decode cL_isWell 378 = .ok (.invokevirtual 152, 3) := by decide +kernel
theorem dL_isWell_381 : decode cL_isWell 381 = .ok (.if_icmp .ge 68, 3) := by decide +kernel
theorem dL_isWell_384 : decode cL_isWell 384 = .ok (.aload_n 0, 1) := by decide +kernel
theorem dL_isWell_385 : decode cL_isWell 385 = .ok (.iload_n 3, 1) := by decide +kernel
theorem dL_isWell_386 : decode cL_isWell 386 = .ok (.invokevirtual 41, 3) := by decide +kernel
theorem dL_isWell_389 : decode cL_isWell 389 = .ok (.aload_n 0, 1) := by decide +kernel
theorem dL_isWell_390 : decode cL_isWell 390 = .ok (.iload_n 3, 1) := by decide +kernel
theorem dL_isWell_391 : decode cL_isWell 391 = .ok (.iconst 1, 1) := by decide +kernel
theorem dL_isWell_392 : decode cL_isWell 392 = .ok (.isub, 1) := by decide +kernel
theorem dL_isWell_393 : decode cL_isWell 393 = .ok (.invokevirtual 41, 3) := by decide +kernel
theorem dL_isWell_396 : decode cL_isWell 396 = .ok (.isub, 1) := by decide +kernel
theorem dL_isWell_397 : decode cL_isWell 397 = .ok (.istore 4, 2) := by decide +kernel
theorem dL_isWell_399 : decode cL_isWell 399 = .ok (.iload 4, 2) := by decide +kernel
theorem dL_isWell_401 : decode cL_isWell 401 = .ok (.ifCond .lt 40, 3) := by decide +kernel
theorem dL_isWell_404 : decode cL_isWell 404 = .ok (.iload 4, 2) := by decide +kernel
theorem dL_isWell_406 : decode cL_isWell 406 = .ok (.ifCond .ne 18, 3) := by decide +kernel
theorem dL_isWell_424 : decode cL_isWell 424 = .ok (.aload_n 0, 1) := by decide +kernel
theorem dL_isWell_425 : decode cL_isWell 425 = .ok (.aload_n 0, 1) := by decide +kernel
theorem dL_isWell_426 : decode cL_isWell 426 = .ok (.iload_n 3, 1) := by decide +kernel
theorem dL_isWell_427 : decode cL_isWell 427 = .ok (.invokevirtual 35, 3) := by decide +kernel
theorem dL_isWell_430 : decode cL_isWell 430 = .ok (.aload_n 0, 1) := by decide +kernel
theorem dL_isWell_431 : decode cL_isWell 431 = .ok (.iload_n 3, 1) := by decide +kernel
theorem dL_isWell_432 : decode cL_isWell 432 = .ok (.invokevirtual 41, 3) := by decide +kernel
theorem dL_isWell_435 : decode cL_isWell 435 = .ok (.invokevirtual 262, 3) := by decide +kernel
theorem dL_isWell_438 : decode cL_isWell 438 = .ok (.ifCond .ne 5, 3) := by decide +kernel
theorem dL_isWell_443 : decode cL_isWell 443 = .ok (.iinc 3 1, 3) := by decide +kernel
theorem dL_isWell_446 : decode cL_isWell 446 = .ok (.goto (-70), 3) := by decide +kernel
theorem dL_isWell_409 : decode cL_isWell 409 = .ok (.aload_n 0, 1) := by decide +kernel
theorem dL_isWell_410 : decode cL_isWell 410 = .ok (.iload_n 3, 1) := by decide +kernel
theorem dL_isWell_411 : decode cL_isWell 411 = .ok (.invokevirtual 35, 3) := by decide +kernel
theorem dL_isWell_414 : decode cL_isWell 414 = .ok (.aload_n 0, 1) := by decide +kernel
theorem dL_isWell_415 : decode cL_isWell 415 = .ok (.iload_n 3, 1) := by decide +kernel
theorem dL_isWell_416 : decode cL_isWell 416 = .ok (.iconst 1, 1) := by decide +kernel
theorem dL_isWell_417 : decode cL_isWell 417 = .ok (.isub, 1) := by decide +kernel
theorem dL_isWell_418 : decode cL_isWell 418 = .ok (.invokevirtual 35, 3) := by decide +kernel
theorem dL_isWell_421 : decode cL_isWell 421 = .ok (.if_icmp .le 20, 3) := by decide +kernel
theorem dL_isWell_449 : decode cL_isWell 449 = .ok (.iload_n 1, 1) := by decide +kernel
theorem dL_isWell_450 : decode cL_isWell 450 = .ok (.aload_n 0, 1) := by decide +kernel
theorem dL_isWell_451 : decode cL_isWell 451 = .ok (.iconst 0, 1) := by decide +kernel
theorem dL_isWell_452 : decode cL_isWell 452 = .ok (.invokevirtual 208, 3) := by decide +kernel
theorem dL_isWell_455 : decode cL_isWell 455 = .ok (.if_icmp .ne 39, 3) := by decide +kernel
theorem dL_isWell_458 : decode cL_isWell 458 = .ok (.iload_n 2, 1) := by decide +kernel
theorem dL_isWell_459 : decode cL_isWell 459 = .ok (.ifCond .eq 16, 3) := by decide +kernel
theorem dL_isWell_475 : decode cL_isWell 475 = .ok (.aload_n 0, 1) := by decide +kernel
theorem dL_isWell_476 : decode cL_isWell 476 = .ok (.bipush 10, 2) := by decide +kernel
theorem dL_isWell_478 : decode cL_isWell 478 = .ok (.iload_n 2, 1) := by decide +kernel
theorem dL_isWell_479 : decode cL_isWell 479 = .ok (.invokestatic 269, 3) := by decide +kernel
theorem u_1586 : Cond.methodLink RL 269 yJ9_min_7cf53 ∈ UW := uw 1586 (by decide +kernel) rfl
theorem g_L_269 : GoodIn UW (va_wsS RL 269 yJ9_min_7cf53 (wsU yJ9_min_7cf53 cJ9_min_7cf53 2 (some .int))) := gS u_1586 u_240 u_44 u_241
theorem dL_isWell_482 : decode cL_isWell 482 = .ok (.invokestatic 236, 3) := by decide +kernel
theorem dL_isWell_485 : decode cL_isWell 485 = .ok (.ldc 17, 2) := by decide +kernel
theorem dL_isWell_487 : decode cL_isWell 487 = .ok (.if_icmp .ne 7, 3) := by decide +kernel
theorem dL_isWell_490 : decode cL_isWell 490 = .ok (.iconst 1, 1) := by decide +kernel
theorem dL_isWell_491 : decode cL_isWell 491 = .ok (.goto 4, 3) := by decide +kernel
theorem dL_isWell_495 : decode cL_isWell 495 = .ok (.ireturn, 1) := by decide +kernel
theorem dL_isWell_462 : decode cL_isWell 462 = .ok (.aload_n 0, 1) := by decide +kernel
theorem dL_isWell_463 : decode cL_isWell 463 = .ok (.invokevirtual 265, 3) := by decide +kernel
theorem u_1566 : Cond.methodLink RL 265 yX9_entryShare ∈ UW := uw 1566 (by decide +kernel) rfl
theorem u_1567 : Cond.instanceMethod yX9_entryShare ∈ UW := uw 1567 (by decide +kernel) rfl
theorem u_1568 : Cond.selects RX9 yX9_entryShare yX9_entryShare ∈ UW := uw 1568 (by decide +kernel) rfl
theorem u_1569 : Cond.code yX9_entryShare cX9_entryShare 2 (some .double) ∈ UW := uw 1569 (by decide +kernel) rfl
theorem g_L_265 : GoodIn UW (wsV RL 265 RX9 yX9_entryShare (wsU yX9_entryShare cX9_entryShare 2 (some .double))) := gV u_1566 u_1567 u_1568 u_21 u_1569
theorem hdv_X9_entryShare : yX9_entryShare.cls = RX9 ∧ yX9_entryShare.cls ≠ "java/lang/invoke/MethodHandle" ∧ yX9_entryShare.cls ≠ "java/lang/invoke/VarHandle" ∧ (parseMethodDescriptor yX9_entryShare.desc).map (fun d => d.parameters.length) = some 0 := by decide +kernel
theorem dL_isWell_466 : decode cL_isWell 466 = .ok (.iload_n 1, 1) := by decide +kernel
theorem dL_isWell_467 : decode cL_isWell 467 = .ok (.i2d, 1) := by decide +kernel
theorem dL_isWell_468 : decode cL_isWell 468 = .ok (.iload_n 2, 1) := by decide +kernel
theorem dL_isWell_469 : decode cL_isWell 469 = .ok (.i2d, 1) := by decide +kernel
theorem dL_isWell_470 : decode cL_isWell 470 = .ok (.ddiv, 1) := by decide +kernel
theorem dL_isWell_471 : decode cL_isWell 471 = .ok (.dcmp .l, 1) := by decide +kernel
theorem dL_isWell_472 : decode cL_isWell 472 = .ok (.ifCond .ne 22, 3) := by decide +kernel
set_option maxHeartbeats 40000000 in
set_option maxRecDepth 100000 in
set_option linter.constructorNameAsVariable false in
theorem c_L_isWell (l : Launch) (hlf : l.stackTraces = false) (G : GG) (qh0 : Nat) (q_snapshot : Nat) (q_history : Nat) (q_program : Nat) (q_notice : Nat) (va : Nat → Nat) (sz : Nat) (q : McV) (v : StV) (hok : ok_L_isWell q v) : wMet l yL_isWell cL_isWell 8 (some .boolean) 11 1057 6342 G (fl [[(qh0, .inr (11, [.ref (va 0), .ref q_snapshot, .int q.1, .ref q_history, .ref q_program, .ref q_notice, .int q.2.1, .int q.2.2]))], wSt G va v]) [.ref qh0] sz (fun u : Int32 => some (.int u)) (fun u : Int32 => u = f_L_isWell q v ∧ narrow .boolean (.int (f_L_isWell q v)) = .int (f_L_isWell q v)) (fun u : Int32 => fl [[(qh0, .inr (11, [.ref (va 0), .ref q_snapshot, .int q.1, .ref q_history, .ref q_program, .ref q_notice, .int q.2.1, .int q.2.2]))], wSt G va v]) := by
  refine w_start (by decide +kernel) (Nat.le_of_ble_eq_true rfl) ?_
  intro p e s m below meth c A hx hb hr hml hts hown hlk hin hP hD hA hK hST ls hl
  have hS : va_S A s.heap s.heap [] := va_S.rf
  have hown : s.vm.findClass RL = some m.cls := hown
  have hl : lv_has ls 8 [(0, .ref qh0)] := hl
  have hF : f_L_isWell q v = (let r_5 : Int32 × Int32 := (lp_L_isWell_6 q v 6 (0 : Int32) (0 : Int32)); (let r_82 : Int32 × Int32 := (lp_L_isWell_27 q v r_5 7 (0 : Int32) (0 : Int32)); (let r_171 : Int32 := (lp_L_isWell_199 q v r_5 r_82 9 (0 : Int32)); (let r_200 : Int32 := (lp_L_isWell_376 q v r_5 r_82 r_171 13 (1 : Int32)); (if r_82.2 = (f_X9_attemptsWith q v (0 : Int32)).2 then (if r_5.2 = (0 : Int32) then (let uu_208 : Int32 := (f_L_loggedResult q v (f_J9_min_7cf53 (10 : Int32) r_5.2)); (if uu_208 = (-900001 : Int32) then (1 : Int32) else (1 : Int32))) else (if (Op.cmpValue (FP.dcmp ((f_X9_entryShare q v).2) (FP.ddiv (FP.i2d r_82.2) (FP.i2d r_5.2))) .l) = (0 : Int32) then (let uu_218 : Int32 := (f_L_loggedResult q v (f_J9_min_7cf53 (10 : Int32) r_5.2)); (if uu_218 = (-900001 : Int32) then (1 : Int32) else (1 : Int32))) else (1 : Int32))) else (1 : Int32)))))) := rfl
  have hok : (okl_lp_L_isWell_6 q v 6 (0 : Int32) (0 : Int32) ∧ (∀ r_5 : Int32 × Int32, r_5 = (lp_L_isWell_6 q v 6 (0 : Int32) (0 : Int32)) → (okl_lp_L_isWell_27 q v r_5 7 (0 : Int32) (0 : Int32) ∧ (∀ r_82 : Int32 × Int32, r_82 = (lp_L_isWell_27 q v r_5 7 (0 : Int32) (0 : Int32)) → (okl_lp_L_isWell_199 q v r_5 r_82 9 (0 : Int32) ∧ (∀ r_171 : Int32, r_171 = (lp_L_isWell_199 q v r_5 r_82 9 (0 : Int32)) → (okl_lp_L_isWell_376 q v r_5 r_82 r_171 13 (1 : Int32) ∧ (∀ r_200 : Int32, r_200 = (lp_L_isWell_376 q v r_5 r_82 r_171 13 (1 : Int32)) → ((f_X9_attemptsWith q v (0 : Int32)).1 = "" ∧ (if r_82.2 = (f_X9_attemptsWith q v (0 : Int32)).2 then (if r_5.2 = (0 : Int32) then (ok_L_loggedResult q v (f_J9_min_7cf53 (10 : Int32) r_5.2) ∧ (∀ uu_208 : Int32, uu_208 = (f_L_loggedResult q v (f_J9_min_7cf53 (10 : Int32) r_5.2)) → (if uu_208 = (-900001 : Int32) then True else False))) else (ok_X9_entryShare q v ∧ ((f_X9_entryShare q v).1 = "" ∧ (vf_n64 (FP.ddiv (FP.i2d r_82.2) (FP.i2d r_5.2)) ∧ (if (Op.cmpValue (FP.dcmp ((f_X9_entryShare q v).2) (FP.ddiv (FP.i2d r_82.2) (FP.i2d r_5.2))) .l) = (0 : Int32) then (ok_L_loggedResult q v (f_J9_min_7cf53 (10 : Int32) r_5.2) ∧ (∀ uu_218 : Int32, uu_218 = (f_L_loggedResult q v (f_J9_min_7cf53 (10 : Int32) r_5.2)) → (if uu_218 = (-900001 : Int32) then True else False))) else False))))) else False)))))))))) := hok
  refine lv_iconst (v := (0 : Int32)) hx hb dL_isWell_0 (by decide) ?_
  refine lv_istore_n (lv' := [(1, .int (0 : Int32)), (0, .ref qh0)]) hx hb dL_isWell_1 rfl hl (by decide) rfl (fun ls hl => ?_)
  refine lv_iconst (v := (0 : Int32)) hx hb dL_isWell_2 (by decide) ?_
  refine lv_istore_n (lv' := [(2, .int (0 : Int32)), (1, .int (0 : Int32)), (0, .ref qh0)]) hx hb dL_isWell_3 rfl hl (by decide) rfl (fun ls hl => ?_)
  refine lv_iconst (v := (0 : Int32)) hx hb dL_isWell_4 (by decide) ?_
  refine lv_istore_n (lv' := [(3, .int (0 : Int32)), (2, .int (0 : Int32)), (1, .int (0 : Int32)), (0, .ref qh0)]) hx hb dL_isWell_5 rfl hl (by decide) rfl (fun ls hl => ?_)
  have hkI := hok.1
  have hok := hok.2
  have K6 : ∀ (r_5 : Int32 × Int32), r_5 = (lp_L_isWell_6 q v 6 (0 : Int32) (0 : Int32)) → ∀ (ls : Array Slot), lv_has ls 8 [(3, .int r_5.1), (2, .int r_5.2), (1, .int (0 : Int32)), (0, .ref qh0)] → W p l e (rmd 11 1057 6342) s m ([.ref qh0] : List Value).toArray below meth c s.heap [] (6) (36) (MQ below (wQ (fun u : Int32 => some (.int u)) (fun u : Int32 => u = f_L_isWell q v ∧ narrow .boolean (.int (f_L_isWell q v)) = .int (f_L_isWell q v)) (fun u : Int32 => fl [[(qh0, .inr (11, [.ref (va 0), .ref q_snapshot, .int q.1, .ref q_history, .ref q_program, .ref q_notice, .int q.2.1, .int q.2.2]))], wSt G va v]) G.1 A) ([.ref qh0] : List Value).toArray s 1057 6342 A) (F0 m 25 ls []) := by
    intro r_5 er_5 ls hl
    have hF : f_L_isWell q v = (let r_82 : Int32 × Int32 := (lp_L_isWell_27 q v r_5 7 (0 : Int32) (0 : Int32)); (let r_171 : Int32 := (lp_L_isWell_199 q v r_5 r_82 9 (0 : Int32)); (let r_200 : Int32 := (lp_L_isWell_376 q v r_5 r_82 r_171 13 (1 : Int32)); (if r_82.2 = (f_X9_attemptsWith q v (0 : Int32)).2 then (if r_5.2 = (0 : Int32) then (let uu_208 : Int32 := (f_L_loggedResult q v (f_J9_min_7cf53 (10 : Int32) r_5.2)); (if uu_208 = (-900001 : Int32) then (1 : Int32) else (1 : Int32))) else (if (Op.cmpValue (FP.dcmp ((f_X9_entryShare q v).2) (FP.ddiv (FP.i2d r_82.2) (FP.i2d r_5.2))) .l) = (0 : Int32) then (let uu_218 : Int32 := (f_L_loggedResult q v (f_J9_min_7cf53 (10 : Int32) r_5.2)); (if uu_218 = (-900001 : Int32) then (1 : Int32) else (1 : Int32))) else (1 : Int32))) else (1 : Int32))))) := by subst er_5; exact hF
    have hok : (okl_lp_L_isWell_27 q v r_5 7 (0 : Int32) (0 : Int32) ∧ (∀ r_82 : Int32 × Int32, r_82 = (lp_L_isWell_27 q v r_5 7 (0 : Int32) (0 : Int32)) → (okl_lp_L_isWell_199 q v r_5 r_82 9 (0 : Int32) ∧ (∀ r_171 : Int32, r_171 = (lp_L_isWell_199 q v r_5 r_82 9 (0 : Int32)) → (okl_lp_L_isWell_376 q v r_5 r_82 r_171 13 (1 : Int32) ∧ (∀ r_200 : Int32, r_200 = (lp_L_isWell_376 q v r_5 r_82 r_171 13 (1 : Int32)) → ((f_X9_attemptsWith q v (0 : Int32)).1 = "" ∧ (if r_82.2 = (f_X9_attemptsWith q v (0 : Int32)).2 then (if r_5.2 = (0 : Int32) then (ok_L_loggedResult q v (f_J9_min_7cf53 (10 : Int32) r_5.2) ∧ (∀ uu_208 : Int32, uu_208 = (f_L_loggedResult q v (f_J9_min_7cf53 (10 : Int32) r_5.2)) → (if uu_208 = (-900001 : Int32) then True else False))) else (ok_X9_entryShare q v ∧ ((f_X9_entryShare q v).1 = "" ∧ (vf_n64 (FP.ddiv (FP.i2d r_82.2) (FP.i2d r_5.2)) ∧ (if (Op.cmpValue (FP.dcmp ((f_X9_entryShare q v).2) (FP.ddiv (FP.i2d r_82.2) (FP.i2d r_5.2))) .l) = (0 : Int32) then (ok_L_loggedResult q v (f_J9_min_7cf53 (10 : Int32) r_5.2) ∧ (∀ uu_218 : Int32, uu_218 = (f_L_loggedResult q v (f_J9_min_7cf53 (10 : Int32) r_5.2)) → (if uu_218 = (-900001 : Int32) then True else False))) else False))))) else False)))))))) := hok _ er_5
    refine lv_iconst (v := (0 : Int32)) hx hb dL_isWell_25 (by decide) ?_
    refine lv_istore_n (lv' := [(3, .int (0 : Int32)), (2, .int r_5.2), (1, .int (0 : Int32)), (0, .ref qh0)]) hx hb dL_isWell_26 rfl hl (by decide) rfl (fun ls hl => ?_)
    have hkI := hok.1
    have hok := hok.2
    have K27 : ∀ (r_82 : Int32 × Int32), r_82 = (lp_L_isWell_27 q v r_5 7 (0 : Int32) (0 : Int32)) → ∀ (H : Heap) (locs : List Loc), ∀ (ls : Array Slot), lv_has ls 8 [(3, .int r_82.1), (2, .int r_5.2), (1, .int r_82.2), (0, .ref qh0)] → va_P G.1 vwCl (fl [[(qh0, .inr (11, [.ref (va 0), .ref q_snapshot, .int q.1, .ref q_history, .ref q_program, .ref q_notice, .int q.2.1, .int q.2.2]))], wSt G va v]) H → va_D A (fl [[(qh0, .inr (11, [.ref (va 0), .ref q_snapshot, .int q.1, .ref q_history, .ref q_program, .ref q_notice, .int q.2.1, .int q.2.2]))], wSt G va v]) → va_S A s.heap H locs → W p l e (rmd 11 1057 6342) s m ([.ref qh0] : List Value).toArray below meth c H locs (405) (2430) (MQ below (wQ (fun u : Int32 => some (.int u)) (fun u : Int32 => u = f_L_isWell q v ∧ narrow .boolean (.int (f_L_isWell q v)) = .int (f_L_isWell q v)) (fun u : Int32 => fl [[(qh0, .inr (11, [.ref (va 0), .ref q_snapshot, .int q.1, .ref q_history, .ref q_program, .ref q_notice, .int q.2.1, .int q.2.2]))], wSt G va v]) G.1 A) ([.ref qh0] : List Value).toArray s 1057 6342 A) (F0 m 197 ls []) := by
      intro r_82 er_82 H locs ls hl hP hD hS
      have hF : f_L_isWell q v = (let r_171 : Int32 := (lp_L_isWell_199 q v r_5 r_82 9 (0 : Int32)); (let r_200 : Int32 := (lp_L_isWell_376 q v r_5 r_82 r_171 13 (1 : Int32)); (if r_82.2 = (f_X9_attemptsWith q v (0 : Int32)).2 then (if r_5.2 = (0 : Int32) then (let uu_208 : Int32 := (f_L_loggedResult q v (f_J9_min_7cf53 (10 : Int32) r_5.2)); (if uu_208 = (-900001 : Int32) then (1 : Int32) else (1 : Int32))) else (if (Op.cmpValue (FP.dcmp ((f_X9_entryShare q v).2) (FP.ddiv (FP.i2d r_82.2) (FP.i2d r_5.2))) .l) = (0 : Int32) then (let uu_218 : Int32 := (f_L_loggedResult q v (f_J9_min_7cf53 (10 : Int32) r_5.2)); (if uu_218 = (-900001 : Int32) then (1 : Int32) else (1 : Int32))) else (1 : Int32))) else (1 : Int32)))) := by subst er_82; exact hF
      have hok : (okl_lp_L_isWell_199 q v r_5 r_82 9 (0 : Int32) ∧ (∀ r_171 : Int32, r_171 = (lp_L_isWell_199 q v r_5 r_82 9 (0 : Int32)) → (okl_lp_L_isWell_376 q v r_5 r_82 r_171 13 (1 : Int32) ∧ (∀ r_200 : Int32, r_200 = (lp_L_isWell_376 q v r_5 r_82 r_171 13 (1 : Int32)) → ((f_X9_attemptsWith q v (0 : Int32)).1 = "" ∧ (if r_82.2 = (f_X9_attemptsWith q v (0 : Int32)).2 then (if r_5.2 = (0 : Int32) then (ok_L_loggedResult q v (f_J9_min_7cf53 (10 : Int32) r_5.2) ∧ (∀ uu_208 : Int32, uu_208 = (f_L_loggedResult q v (f_J9_min_7cf53 (10 : Int32) r_5.2)) → (if uu_208 = (-900001 : Int32) then True else False))) else (ok_X9_entryShare q v ∧ ((f_X9_entryShare q v).1 = "" ∧ (vf_n64 (FP.ddiv (FP.i2d r_82.2) (FP.i2d r_5.2)) ∧ (if (Op.cmpValue (FP.dcmp ((f_X9_entryShare q v).2) (FP.ddiv (FP.i2d r_82.2) (FP.i2d r_5.2))) .l) = (0 : Int32) then (ok_L_loggedResult q v (f_J9_min_7cf53 (10 : Int32) r_5.2) ∧ (∀ uu_218 : Int32, uu_218 = (f_L_loggedResult q v (f_J9_min_7cf53 (10 : Int32) r_5.2)) → (if uu_218 = (-900001 : Int32) then True else False))) else False))))) else False)))))) := hok _ er_82
      refine lv_iconst (v := (0 : Int32)) hx hb dL_isWell_197 (by decide) ?_
      refine lv_istore_n (lv' := [(3, .int (0 : Int32)), (2, .int r_5.2), (1, .int r_82.2), (0, .ref qh0)]) hx hb dL_isWell_198 rfl hl (by decide) rfl (fun ls hl => ?_)
      have hkI := hok.1
      have hok := hok.2
      have K199 : ∀ (r_171 : Int32), r_171 = (lp_L_isWell_199 q v r_5 r_82 9 (0 : Int32)) → ∀ (H : Heap) (locs : List Loc), ∀ (ls : Array Slot), lv_has ls 8 [(3, .int r_171), (2, .int r_5.2), (1, .int r_82.2), (0, .ref qh0)] → va_P G.1 vwCl (fl [[(qh0, .inr (11, [.ref (va 0), .ref q_snapshot, .int q.1, .ref q_history, .ref q_program, .ref q_notice, .int q.2.1, .int q.2.2]))], wSt G va v]) H → va_D A (fl [[(qh0, .inr (11, [.ref (va 0), .ref q_snapshot, .int q.1, .ref q_history, .ref q_program, .ref q_notice, .int q.2.1, .int q.2.2]))], wSt G va v]) → va_S A s.heap H locs → W p l e (rmd 11 1057 6342) s m ([.ref qh0] : List Value).toArray below meth c H locs (963) (5778) (MQ below (wQ (fun u : Int32 => some (.int u)) (fun u : Int32 => u = f_L_isWell q v ∧ narrow .boolean (.int (f_L_isWell q v)) = .int (f_L_isWell q v)) (fun u : Int32 => fl [[(qh0, .inr (11, [.ref (va 0), .ref q_snapshot, .int q.1, .ref q_history, .ref q_program, .ref q_notice, .int q.2.1, .int q.2.2]))], wSt G va v]) G.1 A) ([.ref qh0] : List Value).toArray s 1057 6342 A) (F0 m 374 ls []) := by
        intro r_171 er_171 H locs ls hl hP hD hS
        have hF : f_L_isWell q v = (let r_200 : Int32 := (lp_L_isWell_376 q v r_5 r_82 r_171 13 (1 : Int32)); (if r_82.2 = (f_X9_attemptsWith q v (0 : Int32)).2 then (if r_5.2 = (0 : Int32) then (let uu_208 : Int32 := (f_L_loggedResult q v (f_J9_min_7cf53 (10 : Int32) r_5.2)); (if uu_208 = (-900001 : Int32) then (1 : Int32) else (1 : Int32))) else (if (Op.cmpValue (FP.dcmp ((f_X9_entryShare q v).2) (FP.ddiv (FP.i2d r_82.2) (FP.i2d r_5.2))) .l) = (0 : Int32) then (let uu_218 : Int32 := (f_L_loggedResult q v (f_J9_min_7cf53 (10 : Int32) r_5.2)); (if uu_218 = (-900001 : Int32) then (1 : Int32) else (1 : Int32))) else (1 : Int32))) else (1 : Int32))) := by subst er_171; exact hF
        have hok : (okl_lp_L_isWell_376 q v r_5 r_82 r_171 13 (1 : Int32) ∧ (∀ r_200 : Int32, r_200 = (lp_L_isWell_376 q v r_5 r_82 r_171 13 (1 : Int32)) → ((f_X9_attemptsWith q v (0 : Int32)).1 = "" ∧ (if r_82.2 = (f_X9_attemptsWith q v (0 : Int32)).2 then (if r_5.2 = (0 : Int32) then (ok_L_loggedResult q v (f_J9_min_7cf53 (10 : Int32) r_5.2) ∧ (∀ uu_208 : Int32, uu_208 = (f_L_loggedResult q v (f_J9_min_7cf53 (10 : Int32) r_5.2)) → (if uu_208 = (-900001 : Int32) then True else False))) else (ok_X9_entryShare q v ∧ ((f_X9_entryShare q v).1 = "" ∧ (vf_n64 (FP.ddiv (FP.i2d r_82.2) (FP.i2d r_5.2)) ∧ (if (Op.cmpValue (FP.dcmp ((f_X9_entryShare q v).2) (FP.ddiv (FP.i2d r_82.2) (FP.i2d r_5.2))) .l) = (0 : Int32) then (ok_L_loggedResult q v (f_J9_min_7cf53 (10 : Int32) r_5.2) ∧ (∀ uu_218 : Int32, uu_218 = (f_L_loggedResult q v (f_J9_min_7cf53 (10 : Int32) r_5.2)) → (if uu_218 = (-900001 : Int32) then True else False))) else False))))) else False)))) := hok _ er_171
        refine lv_iconst (v := (1 : Int32)) hx hb dL_isWell_374 (by decide) ?_
        refine lv_istore_n (lv' := [(3, .int (1 : Int32)), (2, .int r_5.2), (1, .int r_82.2), (0, .ref qh0)]) hx hb dL_isWell_375 rfl hl (by decide) rfl (fun ls hl => ?_)
        have hkI := hok.1
        have hok := hok.2
        have K376 : ∀ (r_200 : Int32), r_200 = (lp_L_isWell_376 q v r_5 r_82 r_171 13 (1 : Int32)) → ∀ (ls : Array Slot), lv_has ls 8 [(3, .int r_200), (2, .int r_5.2), (1, .int r_82.2), (0, .ref qh0)] → W p l e (rmd 11 1057 6342) s m ([.ref qh0] : List Value).toArray below meth c H locs (1054) (6324) (MQ below (wQ (fun u : Int32 => some (.int u)) (fun u : Int32 => u = f_L_isWell q v ∧ narrow .boolean (.int (f_L_isWell q v)) = .int (f_L_isWell q v)) (fun u : Int32 => fl [[(qh0, .inr (11, [.ref (va 0), .ref q_snapshot, .int q.1, .ref q_history, .ref q_program, .ref q_notice, .int q.2.1, .int q.2.2]))], wSt G va v]) G.1 A) ([.ref qh0] : List Value).toArray s 1057 6342 A) (F0 m 449 ls []) := by
          intro r_200 er_200 ls hl
          have hF : f_L_isWell q v = (if r_82.2 = (f_X9_attemptsWith q v (0 : Int32)).2 then (if r_5.2 = (0 : Int32) then (let uu_208 : Int32 := (f_L_loggedResult q v (f_J9_min_7cf53 (10 : Int32) r_5.2)); (if uu_208 = (-900001 : Int32) then (1 : Int32) else (1 : Int32))) else (if (Op.cmpValue (FP.dcmp ((f_X9_entryShare q v).2) (FP.ddiv (FP.i2d r_82.2) (FP.i2d r_5.2))) .l) = (0 : Int32) then (let uu_218 : Int32 := (f_L_loggedResult q v (f_J9_min_7cf53 (10 : Int32) r_5.2)); (if uu_218 = (-900001 : Int32) then (1 : Int32) else (1 : Int32))) else (1 : Int32))) else (1 : Int32)) := by subst er_200; exact hF
          have hok : ((f_X9_attemptsWith q v (0 : Int32)).1 = "" ∧ (if r_82.2 = (f_X9_attemptsWith q v (0 : Int32)).2 then (if r_5.2 = (0 : Int32) then (ok_L_loggedResult q v (f_J9_min_7cf53 (10 : Int32) r_5.2) ∧ (∀ uu_208 : Int32, uu_208 = (f_L_loggedResult q v (f_J9_min_7cf53 (10 : Int32) r_5.2)) → (if uu_208 = (-900001 : Int32) then True else False))) else (ok_X9_entryShare q v ∧ ((f_X9_entryShare q v).1 = "" ∧ (vf_n64 (FP.ddiv (FP.i2d r_82.2) (FP.i2d r_5.2)) ∧ (if (Op.cmpValue (FP.dcmp ((f_X9_entryShare q v).2) (FP.ddiv (FP.i2d r_82.2) (FP.i2d r_5.2))) .l) = (0 : Int32) then (ok_L_loggedResult q v (f_J9_min_7cf53 (10 : Int32) r_5.2) ∧ (∀ uu_218 : Int32, uu_218 = (f_L_loggedResult q v (f_J9_min_7cf53 (10 : Int32) r_5.2)) → (if uu_218 = (-900001 : Int32) then True else False))) else False))))) else False)) := hok _ er_200
          refine lv_iload_n hx hb dL_isWell_449 rfl (lv_at hl 2 rfl) ?_
          refine lv_aload_n hx hb dL_isWell_450 rfl (lv_at hl 3 rfl) ?_
          refine lv_iconst (v := (0 : Int32)) hx hb dL_isWell_451 (by decide) ?_
          have h_202 := hok.1
          have hok := hok.2
          refine xr_V (own := RL) (v := (some (.int ((f_X9_attemptsWith q v (0 : Int32)).2)))) (st1 := [.int ((f_X9_attemptsWith q v (0 : Int32)).2), .int r_82.2]) (As := [.int (0 : Int32)]) (rest := [.int r_82.2]) (c_X9_attemptsWithS l hlf G qh0 q_snapshot q_history q_program q_notice va q v (0 : Int32)) ⟨hx, hb, hml, hown, hts⟩ g_L_208 hdv_X9_attemptsWith hK hST hS hP [0, 1, 2, 3, 4, 5, 6, 7, 8, 9, 10, 11, 12, 13, 14, 15, 16, 17, 18, 19, 20] rfl (k0 := 0) rfl rfl rfl ⟨Nat.le_of_ble_eq_true rfl, Nat.le_of_ble_eq_true rfl⟩ ⟨Nat.le_of_ble_eq_true rfl, Nat.le_of_ble_eq_true rfl⟩ rfl hl.1 rfl (Nat.le_of_ble_eq_true rfl) dL_isWell_452 rfl (fun E ce q9 H hE h1 h2 h3 h4 h5 => absurd (hE.1.trans h_202) hE.2) (fun b_201 => ?_)
          have hP := hP
          have b_201 := b_201.2
          refine lv_icmp_ne (tgt := 494) hx hb dL_isWell_455 (by decide) (fun c_203 => ?_) (fun c_203 => ?_)
          · have hF := hF.trans (if_neg c_203)
            have hok := Eq.mp (if_neg c_203) hok
            exact hok.elim
          · have hF := hF.trans (if_pos c_203)
            have hok := Eq.mp (if_pos c_203) hok
            refine lv_iload_n hx hb dL_isWell_458 rfl (lv_at hl 1 rfl) ?_
            refine lv_if_eq (tgt := 475) hx hb dL_isWell_459 (by decide) (fun c_204 => ?_) (fun c_204 => ?_)
            · have hF := hF.trans (if_pos c_204)
              have hok := Eq.mp (if_pos c_204) hok
              refine lv_aload_n hx hb dL_isWell_475 rfl (lv_at hl 3 rfl) ?_
              refine lv_bipush (v := (10 : Int32)) hx hb dL_isWell_476 (by decide) ?_
              refine lv_iload_n hx hb dL_isWell_478 rfl (lv_at hl 1 rfl) ?_
              refine r_S (own := RL) (v := (some (.int (f_J9_min_7cf53 (10 : Int32) r_5.2)))) (st1 := [.int (f_J9_min_7cf53 (10 : Int32) r_5.2), .ref qh0]) (As := [.int (10 : Int32), .int r_5.2]) (rest := [.ref qh0]) (c_J9_min_7cf53 l G (10 : Int32) r_5.2) ⟨hx, hb, hml, hown, hts⟩ g_L_269 hds_J9_min_7cf53 hK hST hS hP [] rfl ⟨Nat.le_of_ble_eq_true rfl, Nat.le_of_ble_eq_true rfl⟩ ⟨Nat.le_of_ble_eq_true rfl, Nat.le_of_ble_eq_true rfl⟩ rfl hl.1 rfl (Nat.le_of_ble_eq_true rfl) dL_isWell_479 rfl (fun b_205 => ?_)
              have k_206 := hok.1
              have hok := hok.2
              refine w_SH (own := RL) (cs := [[(qh0, .inr (11, [.ref (va 0), .ref q_snapshot, .int q.1, .ref q_history, .ref q_program, .ref q_notice, .int q.2.1, .int q.2.2]))], wSt G va v]) (rs := []) (As := [.ref qh0, .int (f_J9_min_7cf53 (10 : Int32) r_5.2)]) (rest := []) (c_L_loggedResult l hlf G qh0 q_snapshot q_history q_program q_notice va H.size q v (f_J9_min_7cf53 (10 : Int32) r_5.2) k_206) ⟨hx, hb, hml, hown, hts⟩ gh_L_236 hds_L_loggedResult hK hST hS hP hD hA [0, 1] [] rfl rfl rfl ⟨Nat.le_of_ble_eq_true rfl, Nat.le_of_ble_eq_true rfl⟩ ⟨Nat.le_of_ble_eq_true rfl, Nat.le_of_ble_eq_true rfl⟩ rfl hl.1 rfl (Nat.le_of_ble_eq_true rfl) dL_isWell_482 (fun uu_208 H locs huu hP hD hS => ?_)
              have euu_208 := huu
              have hP : va_P G.1 vwCl (fl [[(qh0, .inr (11, [.ref (va 0), .ref q_snapshot, .int q.1, .ref q_history, .ref q_program, .ref q_notice, .int q.2.1, .int q.2.2]))], wSt G va v]) H := hP
              have hD : va_D A (fl [[(qh0, .inr (11, [.ref (va 0), .ref q_snapshot, .int q.1, .ref q_history, .ref q_program, .ref q_notice, .int q.2.1, .int q.2.2]))], wSt G va v]) := hD
              refine W.eq (g2 := F0 m 485 ls [.int uu_208]) rfl ?_
              have hF : f_L_isWell q v = (if uu_208 = (-900001 : Int32) then (1 : Int32) else (1 : Int32)) := by subst euu_208; exact hF
              have hok : (if uu_208 = (-900001 : Int32) then True else False) := hok _ euu_208
              refine lv_ldc hx hb hown (hts _ u_704) dL_isWell_485 ?_
              refine lv_icmp_ne (tgt := 494) hx hb dL_isWell_487 (by decide) (fun c_209 => ?_) (fun c_209 => ?_)
              · have hF := hF.trans (if_neg c_209)
                have hok := Eq.mp (if_neg c_209) hok
                exact hok.elim
              · have hF := hF.trans (if_pos c_209)
                have hok := Eq.mp (if_pos c_209) hok
                refine lv_iconst (v := (1 : Int32)) hx hb dL_isWell_490 (by decide) ?_
                refine lv_goto (tgt := 495) hx hb dL_isWell_491 (by decide) ?_
                exact w_ret (u := (1 : Int32)) hx hb hr hlk rfl hS rfl ⟨hF.symm, (by rw [hF]; exact (rfl : narrow .boolean (.int (1 : Int32)) = .int (1 : Int32)))⟩ hP hD (Nat.le_of_ble_eq_true rfl) (Nat.le_of_ble_eq_true rfl) dL_isWell_495
            · have hF := hF.trans (if_neg c_204)
              have hok := Eq.mp (if_neg c_204) hok
              refine lv_aload_n hx hb dL_isWell_462 rfl (lv_at hl 3 rfl) ?_
              have k_210 := hok.1
              have hok := hok.2
              have h_212 := hok.1
              have hok := hok.2
              refine xr_V (own := RL) (v := (some (.double ((f_X9_entryShare q v).2)))) (st1 := [.double ((f_X9_entryShare q v).2)]) (As := []) (rest := []) (c_X9_entryShareS l hlf G qh0 q_snapshot q_history q_program q_notice va q v k_210) ⟨hx, hb, hml, hown, hts⟩ g_L_265 hdv_X9_entryShare hK hST hS hP [0, 1, 2, 3, 4, 5, 6, 7, 8, 9, 10, 11, 12, 13, 14, 15, 16, 17, 18, 19, 20] rfl (k0 := 0) rfl rfl rfl ⟨Nat.le_of_ble_eq_true rfl, Nat.le_of_ble_eq_true rfl⟩ ⟨Nat.le_of_ble_eq_true rfl, Nat.le_of_ble_eq_true rfl⟩ rfl hl.1 rfl (Nat.le_of_ble_eq_true rfl) dL_isWell_463 rfl (fun E ce q9 H hE h1 h2 h3 h4 h5 => absurd (hE.1.trans h_212) hE.2) (fun b_211 => ?_)
              have hP := hP
              have b_211 := b_211.2
              refine lv_iload_n hx hb dL_isWell_466 rfl (lv_at hl 2 rfl) ?_
              refine lv_i2d hx hb dL_isWell_467 ?_
              refine lv_iload_n hx hb dL_isWell_468 rfl (lv_at hl 1 rfl) ?_
              refine lv_i2d hx hb dL_isWell_469 ?_
              have h_213 := hok.1
              have hok := hok.2
              refine lv_ddiv hx hb dL_isWell_470 h_213 ?_
              refine lv_dcmp hx hb dL_isWell_471 ?_
              refine lv_if_ne (tgt := 494) hx hb dL_isWell_472 (by decide) (fun c_214 => ?_) (fun c_214 => ?_)
              · have hF := hF.trans (if_neg c_214)
                have hok := Eq.mp (if_neg c_214) hok
                exact hok.elim
              · have hF := hF.trans (if_pos c_214)
                have hok := Eq.mp (if_pos c_214) hok
                refine lv_aload_n hx hb dL_isWell_475 rfl (lv_at hl 3 rfl) ?_
                refine lv_bipush (v := (10 : Int32)) hx hb dL_isWell_476 (by decide) ?_
                refine lv_iload_n hx hb dL_isWell_478 rfl (lv_at hl 1 rfl) ?_
                refine r_S (own := RL) (v := (some (.int (f_J9_min_7cf53 (10 : Int32) r_5.2)))) (st1 := [.int (f_J9_min_7cf53 (10 : Int32) r_5.2), .ref qh0]) (As := [.int (10 : Int32), .int r_5.2]) (rest := [.ref qh0]) (c_J9_min_7cf53 l G (10 : Int32) r_5.2) ⟨hx, hb, hml, hown, hts⟩ g_L_269 hds_J9_min_7cf53 hK hST hS hP [] rfl ⟨Nat.le_of_ble_eq_true rfl, Nat.le_of_ble_eq_true rfl⟩ ⟨Nat.le_of_ble_eq_true rfl, Nat.le_of_ble_eq_true rfl⟩ rfl hl.1 rfl (Nat.le_of_ble_eq_true rfl) dL_isWell_479 rfl (fun b_215 => ?_)
                have k_216 := hok.1
                have hok := hok.2
                refine w_SH (own := RL) (cs := [[(qh0, .inr (11, [.ref (va 0), .ref q_snapshot, .int q.1, .ref q_history, .ref q_program, .ref q_notice, .int q.2.1, .int q.2.2]))], wSt G va v]) (rs := []) (As := [.ref qh0, .int (f_J9_min_7cf53 (10 : Int32) r_5.2)]) (rest := []) (c_L_loggedResult l hlf G qh0 q_snapshot q_history q_program q_notice va H.size q v (f_J9_min_7cf53 (10 : Int32) r_5.2) k_216) ⟨hx, hb, hml, hown, hts⟩ gh_L_236 hds_L_loggedResult hK hST hS hP hD hA [0, 1] [] rfl rfl rfl ⟨Nat.le_of_ble_eq_true rfl, Nat.le_of_ble_eq_true rfl⟩ ⟨Nat.le_of_ble_eq_true rfl, Nat.le_of_ble_eq_true rfl⟩ rfl hl.1 rfl (Nat.le_of_ble_eq_true rfl) dL_isWell_482 (fun uu_218 H locs huu hP hD hS => ?_)
                have euu_218 := huu
                have hP : va_P G.1 vwCl (fl [[(qh0, .inr (11, [.ref (va 0), .ref q_snapshot, .int q.1, .ref q_history, .ref q_program, .ref q_notice, .int q.2.1, .int q.2.2]))], wSt G va v]) H := hP
                have hD : va_D A (fl [[(qh0, .inr (11, [.ref (va 0), .ref q_snapshot, .int q.1, .ref q_history, .ref q_program, .ref q_notice, .int q.2.1, .int q.2.2]))], wSt G va v]) := hD
                refine W.eq (g2 := F0 m 485 ls [.int uu_218]) rfl ?_
                have hF : f_L_isWell q v = (if uu_218 = (-900001 : Int32) then (1 : Int32) else (1 : Int32)) := by subst euu_218; exact hF
                have hok : (if uu_218 = (-900001 : Int32) then True else False) := hok _ euu_218
                refine lv_ldc hx hb hown (hts _ u_704) dL_isWell_485 ?_
                refine lv_icmp_ne (tgt := 494) hx hb dL_isWell_487 (by decide) (fun c_219 => ?_) (fun c_219 => ?_)
                · have hF := hF.trans (if_neg c_219)
                  have hok := Eq.mp (if_neg c_219) hok
                  exact hok.elim
                · have hF := hF.trans (if_pos c_219)
                  have hok := Eq.mp (if_pos c_219) hok
                  refine lv_iconst (v := (1 : Int32)) hx hb dL_isWell_490 (by decide) ?_
                  refine lv_goto (tgt := 495) hx hb dL_isWell_491 (by decide) ?_
                  exact w_ret (u := (1 : Int32)) hx hb hr hlk rfl hS rfl ⟨hF.symm, (by rw [hF]; exact (rfl : narrow .boolean (.int (1 : Int32)) = .int (1 : Int32)))⟩ hP hD (Nat.le_of_ble_eq_true rfl) (Nat.le_of_ble_eq_true rfl) dL_isWell_495
        have L376 : ∀ (n : Nat) (x3 : Int32) (kc_376 ks_376 : Nat) (ls : Array Slot), lv_has ls 8 [(3, .int x3), (2, .int r_5.2), (1, .int r_82.2), (0, .ref qh0)] → kc_376 + n * 7 ≤ (963) + 91 → ks_376 + n * 42 ≤ (5778) + 546 → (lp_L_isWell_376 q v r_5 r_82 r_171 13 (1 : Int32)) = lp_L_isWell_376 q v r_5 r_82 r_171 n x3 → okl_lp_L_isWell_376 q v r_5 r_82 r_171 n x3 → W p l e (rmd 11 1057 6342) s m ([.ref qh0] : List Value).toArray below meth c H locs kc_376 ks_376 (MQ below (wQ (fun u : Int32 => some (.int u)) (fun u : Int32 => u = f_L_isWell q v ∧ narrow .boolean (.int (f_L_isWell q v)) = .int (f_L_isWell q v)) (fun u : Int32 => fl [[(qh0, .inr (11, [.ref (va 0), .ref q_snapshot, .int q.1, .ref q_history, .ref q_program, .ref q_notice, .int q.2.1, .int q.2.2]))], wSt G va v]) G.1 A) ([.ref qh0] : List Value).toArray s 1057 6342 A) (F0 m 376 ls []) := by
          intro n
          induction n with
          | zero => intro x3 kc_376 ks_376 ls hl _ _ hI hok; exact hok.elim
          | succ n ih =>
            intro x3 kc_376 ks_376 ls hl hkc_376 hks_376 hI hok
            have hI : (lp_L_isWell_376 q v r_5 r_82 r_171 13 (1 : Int32)) = (if (f_X9_exceptionCount q v) ≤ x3 then x3 else (let y_178 : Int32 := ((f_X9_exceptionDay q v x3).2 - (f_X9_exceptionDay q v (x3 - (1 : Int32))).2); (if y_178 < (0 : Int32) then x3 else (if y_178 = (0 : Int32) then (if (f_X9_exceptionDoor q v x3).2 ≤ (f_X9_exceptionDoor q v (x3 - (1 : Int32))).2 then x3 else (if (f_X9_hasException q v ((f_X9_exceptionDoor q v x3).2) ((f_X9_exceptionDay q v x3).2)).2 = (0 : Int32) then x3 else (lp_L_isWell_376 q v r_5 r_82 r_171 n (x3 + 1)))) else (if (f_X9_hasException q v ((f_X9_exceptionDoor q v x3).2) ((f_X9_exceptionDay q v x3).2)).2 = (0 : Int32) then x3 else (lp_L_isWell_376 q v r_5 r_82 r_171 n (x3 + 1))))))) := hI
            have hok : (if (f_X9_exceptionCount q v) ≤ x3 then True else ((f_X9_exceptionDay q v x3).1 = "" ∧ ((f_X9_exceptionDay q v (x3 - (1 : Int32))).1 = "" ∧ (∀ y_178 : Int32, y_178 = ((f_X9_exceptionDay q v x3).2 - (f_X9_exceptionDay q v (x3 - (1 : Int32))).2) → (if y_178 < (0 : Int32) then False else (if y_178 = (0 : Int32) then ((f_X9_exceptionDoor q v x3).1 = "" ∧ ((f_X9_exceptionDoor q v (x3 - (1 : Int32))).1 = "" ∧ (if (f_X9_exceptionDoor q v x3).2 ≤ (f_X9_exceptionDoor q v (x3 - (1 : Int32))).2 then False else ((f_X9_exceptionDoor q v x3).1 = "" ∧ ((f_X9_exceptionDay q v x3).1 = "" ∧ ((f_X9_hasException q v ((f_X9_exceptionDoor q v x3).2) ((f_X9_exceptionDay q v x3).2)).1 = "" ∧ (if (f_X9_hasException q v ((f_X9_exceptionDoor q v x3).2) ((f_X9_exceptionDay q v x3).2)).2 = (0 : Int32) then False else (okl_lp_L_isWell_376 q v r_5 r_82 r_171 n (x3 + 1))))))))) else ((f_X9_exceptionDoor q v x3).1 = "" ∧ ((f_X9_exceptionDay q v x3).1 = "" ∧ ((f_X9_hasException q v ((f_X9_exceptionDoor q v x3).2) ((f_X9_exceptionDay q v x3).2)).1 = "" ∧ (if (f_X9_hasException q v ((f_X9_exceptionDoor q v x3).2) ((f_X9_exceptionDay q v x3).2)).2 = (0 : Int32) then False else (okl_lp_L_isWell_376 q v r_5 r_82 r_171 n (x3 + 1)))))))))))) := hok
            refine lv_iload_n hx hb dL_isWell_376 rfl (lv_at hl 0 rfl) ?_
            refine lv_aload_n hx hb dL_isWell_377 rfl (lv_at hl 3 rfl) ?_
            refine r_V (own := RL) (v := (some (.int (f_X9_exceptionCount q v)))) (st1 := [.int (f_X9_exceptionCount q v), .int x3]) (As := []) (rest := [.int x3]) (c_X9_exceptionCountS l G qh0 q_snapshot q_history q_program q_notice va q v) ⟨hx, hb, hml, hown, hts⟩ g_L_152 hdv_X9_exceptionCount hK hST hS hP [0, 1, 2, 3, 4, 5, 6, 7, 8, 9, 10, 11, 12, 13, 14, 15, 16, 17, 18, 19, 20] rfl (k0 := 0) rfl rfl rfl ⟨Nat.le_of_ble_eq_true rfl, Nat.le_of_ble_eq_true rfl⟩ ⟨(by show _ ≤ 1057; omega), (by show _ ≤ 6342; omega)⟩ rfl hl.1 rfl (Nat.le_of_ble_eq_true rfl) dL_isWell_378 rfl (fun b_172 => ?_)
            refine lv_icmp_ge (tgt := 449) hx hb dL_isWell_381 (by decide) (fun c_173 => ?_) (fun c_173 => ?_)
            · have hI := hI.trans (if_pos c_173)
              have hok := Eq.mp (if_pos c_173) hok
              refine W.widen (k := (1054)) (n := (6324)) (by omega) (by omega) ?_
              exact K376 _ hI.symm ls (lv_sub hl [0, 1, 2, 3] rfl)
            · have hI := hI.trans (if_neg c_173)
              have hok := Eq.mp (if_neg c_173) hok
              refine lv_aload_n hx hb dL_isWell_384 rfl (lv_at hl 3 rfl) ?_
              refine lv_iload_n hx hb dL_isWell_385 rfl (lv_at hl 0 rfl) ?_
              have h_175 := hok.1
              have hok := hok.2
              refine xr_V (own := RL) (v := (some (.int ((f_X9_exceptionDay q v x3).2)))) (st1 := [.int ((f_X9_exceptionDay q v x3).2)]) (As := [.int x3]) (rest := []) (c_X9_exceptionDayS l hlf G qh0 q_snapshot q_history q_program q_notice va q v x3) ⟨hx, hb, hml, hown, hts⟩ g_L_41 hdv_X9_exceptionDay hK hST hS hP [0, 1, 2, 3, 4, 5, 6, 7, 8, 9, 10, 11, 12, 13, 14, 15, 16, 17, 18, 19, 20] rfl (k0 := 0) rfl rfl rfl ⟨Nat.le_of_ble_eq_true rfl, Nat.le_of_ble_eq_true rfl⟩ ⟨(by show _ ≤ 1057; omega), (by show _ ≤ 6342; omega)⟩ rfl hl.1 rfl (Nat.le_of_ble_eq_true rfl) dL_isWell_386 rfl (fun E ce q9 H hE h1 h2 h3 h4 h5 => absurd (hE.1.trans h_175) hE.2) (fun b_174 => ?_)
              have hP := hP
              have b_174 := b_174.2
              refine lv_aload_n hx hb dL_isWell_389 rfl (lv_at hl 3 rfl) ?_
              refine lv_iload_n hx hb dL_isWell_390 rfl (lv_at hl 0 rfl) ?_
              refine lv_iconst (v := (1 : Int32)) hx hb dL_isWell_391 (by decide) ?_
              refine lv_isub hx hb dL_isWell_392 ?_
              have h_177 := hok.1
              have hok := hok.2
              refine xr_V (own := RL) (v := (some (.int ((f_X9_exceptionDay q v (x3 - (1 : Int32))).2)))) (st1 := [.int ((f_X9_exceptionDay q v (x3 - (1 : Int32))).2), .int ((f_X9_exceptionDay q v x3).2)]) (As := [.int (x3 - (1 : Int32))]) (rest := [.int ((f_X9_exceptionDay q v x3).2)]) (c_X9_exceptionDayS l hlf G qh0 q_snapshot q_history q_program q_notice va q v (x3 - (1 : Int32))) ⟨hx, hb, hml, hown, hts⟩ g_L_41 hdv_X9_exceptionDay hK hST hS hP [0, 1, 2, 3, 4, 5, 6, 7, 8, 9, 10, 11, 12, 13, 14, 15, 16, 17, 18, 19, 20] rfl (k0 := 0) rfl rfl rfl ⟨Nat.le_of_ble_eq_true rfl, Nat.le_of_ble_eq_true rfl⟩ ⟨(by show _ ≤ 1057; omega), (by show _ ≤ 6342; omega)⟩ rfl hl.1 rfl (Nat.le_of_ble_eq_true rfl) dL_isWell_393 rfl (fun E ce q9 H hE h1 h2 h3 h4 h5 => absurd (hE.1.trans h_177) hE.2) (fun b_176 => ?_)
              have hP := hP
              have b_176 := b_176.2
              refine lv_isub hx hb dL_isWell_396 ?_
              refine lv_topi (fun y_178 ey_178 => ?_)
              have hI : (lp_L_isWell_376 q v r_5 r_82 r_171 13 (1 : Int32)) = (if y_178 < (0 : Int32) then x3 else (if y_178 = (0 : Int32) then (if (f_X9_exceptionDoor q v x3).2 ≤ (f_X9_exceptionDoor q v (x3 - (1 : Int32))).2 then x3 else (if (f_X9_hasException q v ((f_X9_exceptionDoor q v x3).2) ((f_X9_exceptionDay q v x3).2)).2 = (0 : Int32) then x3 else (lp_L_isWell_376 q v r_5 r_82 r_171 n (x3 + 1)))) else (if (f_X9_hasException q v ((f_X9_exceptionDoor q v x3).2) ((f_X9_exceptionDay q v x3).2)).2 = (0 : Int32) then x3 else (lp_L_isWell_376 q v r_5 r_82 r_171 n (x3 + 1))))) := by subst ey_178; exact hI
              have hok : (if y_178 < (0 : Int32) then False else (if y_178 = (0 : Int32) then ((f_X9_exceptionDoor q v x3).1 = "" ∧ ((f_X9_exceptionDoor q v (x3 - (1 : Int32))).1 = "" ∧ (if (f_X9_exceptionDoor q v x3).2 ≤ (f_X9_exceptionDoor q v (x3 - (1 : Int32))).2 then False else ((f_X9_exceptionDoor q v x3).1 = "" ∧ ((f_X9_exceptionDay q v x3).1 = "" ∧ ((f_X9_hasException q v ((f_X9_exceptionDoor q v x3).2) ((f_X9_exceptionDay q v x3).2)).1 = "" ∧ (if (f_X9_hasException q v ((f_X9_exceptionDoor q v x3).2) ((f_X9_exceptionDay q v x3).2)).2 = (0 : Int32) then False else (okl_lp_L_isWell_376 q v r_5 r_82 r_171 n (x3 + 1))))))))) else ((f_X9_exceptionDoor q v x3).1 = "" ∧ ((f_X9_exceptionDay q v x3).1 = "" ∧ ((f_X9_hasException q v ((f_X9_exceptionDoor q v x3).2) ((f_X9_exceptionDay q v x3).2)).1 = "" ∧ (if (f_X9_hasException q v ((f_X9_exceptionDoor q v x3).2) ((f_X9_exceptionDay q v x3).2)).2 = (0 : Int32) then False else (okl_lp_L_isWell_376 q v r_5 r_82 r_171 n (x3 + 1)))))))) := hok _ ey_178
              refine lv_istore (lv' := [(4, .int y_178), (3, .int x3), (2, .int r_5.2), (1, .int r_82.2), (0, .ref qh0)]) hx hb dL_isWell_397 hl (by decide) rfl (fun ls hl => ?_)
              refine lv_iload hx hb dL_isWell_399 (lv_at hl 0 rfl) ?_
              refine lv_if_lt (tgt := 441) hx hb dL_isWell_401 (by decide) (fun c_179 => ?_) (fun c_179 => ?_)
              · have hI := hI.trans (if_pos c_179)
                have hok := Eq.mp (if_pos c_179) hok
                exact hok.elim
              · have hI := hI.trans (if_neg c_179)
                have hok := Eq.mp (if_neg c_179) hok
                refine lv_iload hx hb dL_isWell_404 (lv_at hl 0 rfl) ?_
                refine lv_if_ne (tgt := 424) hx hb dL_isWell_406 (by decide) (fun c_180 => ?_) (fun c_180 => ?_)
                · have hI := hI.trans (if_neg c_180)
                  have hok := Eq.mp (if_neg c_180) hok
                  refine lv_aload_n hx hb dL_isWell_424 rfl (lv_at hl 4 rfl) ?_
                  refine lv_aload_n hx hb dL_isWell_425 rfl (lv_at hl 4 rfl) ?_
                  refine lv_iload_n hx hb dL_isWell_426 rfl (lv_at hl 1 rfl) ?_
                  have h_182 := hok.1
                  have hok := hok.2
                  refine xr_V (own := RL) (v := (some (.int ((f_X9_exceptionDoor q v x3).2)))) (st1 := [.int ((f_X9_exceptionDoor q v x3).2), .ref qh0]) (As := [.int x3]) (rest := [.ref qh0]) (c_X9_exceptionDoorS l hlf G qh0 q_snapshot q_history q_program q_notice va q v x3) ⟨hx, hb, hml, hown, hts⟩ g_L_35 hdv_X9_exceptionDoor hK hST hS hP [0, 1, 2, 3, 4, 5, 6, 7, 8, 9, 10, 11, 12, 13, 14, 15, 16, 17, 18, 19, 20] rfl (k0 := 0) rfl rfl rfl ⟨Nat.le_of_ble_eq_true rfl, Nat.le_of_ble_eq_true rfl⟩ ⟨(by show _ ≤ 1057; omega), (by show _ ≤ 6342; omega)⟩ rfl hl.1 rfl (Nat.le_of_ble_eq_true rfl) dL_isWell_427 rfl (fun E ce q9 H hE h1 h2 h3 h4 h5 => absurd (hE.1.trans h_182) hE.2) (fun b_181 => ?_)
                  have hP := hP
                  have b_181 := b_181.2
                  refine lv_aload_n hx hb dL_isWell_430 rfl (lv_at hl 4 rfl) ?_
                  refine lv_iload_n hx hb dL_isWell_431 rfl (lv_at hl 1 rfl) ?_
                  have h_184 := hok.1
                  have hok := hok.2
                  refine xr_V (own := RL) (v := (some (.int ((f_X9_exceptionDay q v x3).2)))) (st1 := [.int ((f_X9_exceptionDay q v x3).2), .int ((f_X9_exceptionDoor q v x3).2), .ref qh0]) (As := [.int x3]) (rest := [.int ((f_X9_exceptionDoor q v x3).2), .ref qh0]) (c_X9_exceptionDayS l hlf G qh0 q_snapshot q_history q_program q_notice va q v x3) ⟨hx, hb, hml, hown, hts⟩ g_L_41 hdv_X9_exceptionDay hK hST hS hP [0, 1, 2, 3, 4, 5, 6, 7, 8, 9, 10, 11, 12, 13, 14, 15, 16, 17, 18, 19, 20] rfl (k0 := 0) rfl rfl rfl ⟨Nat.le_of_ble_eq_true rfl, Nat.le_of_ble_eq_true rfl⟩ ⟨(by show _ ≤ 1057; omega), (by show _ ≤ 6342; omega)⟩ rfl hl.1 rfl (Nat.le_of_ble_eq_true rfl) dL_isWell_432 rfl (fun E ce q9 H hE h1 h2 h3 h4 h5 => absurd (hE.1.trans h_184) hE.2) (fun b_183 => ?_)
                  have hP := hP
                  have b_183 := b_183.2
                  have h_186 := hok.1
                  have hok := hok.2
                  refine xr_V (own := RL) (v := (some (.int ((f_X9_hasException q v ((f_X9_exceptionDoor q v x3).2) ((f_X9_exceptionDay q v x3).2)).2)))) (st1 := [.int ((f_X9_hasException q v ((f_X9_exceptionDoor q v x3).2) ((f_X9_exceptionDay q v x3).2)).2)]) (As := [.int ((f_X9_exceptionDoor q v x3).2), .int ((f_X9_exceptionDay q v x3).2)]) (rest := []) (c_X9_hasExceptionS l hlf G qh0 q_snapshot q_history q_program q_notice va q v ((f_X9_exceptionDoor q v x3).2) ((f_X9_exceptionDay q v x3).2)) ⟨hx, hb, hml, hown, hts⟩ g_L_262 hdv_X9_hasException hK hST hS hP [0, 1, 2, 3, 4, 5, 6, 7, 8, 9, 10, 11, 12, 13, 14, 15, 16, 17, 18, 19, 20] rfl (k0 := 0) rfl rfl rfl ⟨Nat.le_of_ble_eq_true rfl, Nat.le_of_ble_eq_true rfl⟩ ⟨(by show _ ≤ 1057; omega), (by show _ ≤ 6342; omega)⟩ rfl hl.1 rfl (Nat.le_of_ble_eq_true rfl) dL_isWell_435 rfl (fun E ce q9 H hE h1 h2 h3 h4 h5 => absurd (hE.1.trans h_186) hE.2) (fun b_185 => ?_)
                  have hP := hP
                  have b_185 := b_185.2
                  refine lv_if_ne (tgt := 443) hx hb dL_isWell_438 (by decide) (fun c_187 => ?_) (fun c_187 => ?_)
                  · have hI := hI.trans (if_neg c_187)
                    have hok := Eq.mp (if_neg c_187) hok
                    refine lv_iinc (v := (x3 + 1)) (lv' := [(3, .int (x3 + 1)), (4, .int y_178), (2, .int r_5.2), (1, .int r_82.2), (0, .ref qh0)]) hx hb dL_isWell_443 hl (k := 1) rfl rfl (by decide) rfl (fun ls hl => ?_)
                    refine lv_goto (tgt := 376) hx hb dL_isWell_446 (by decide) ?_
                    exact ih (x3 + 1) _ _ ls (lv_sub hl [0, 2, 3, 4] rfl) (by omega) (by omega) hI hok
                  · have hI := hI.trans (if_pos c_187)
                    have hok := Eq.mp (if_pos c_187) hok
                    exact hok.elim
                · have hI := hI.trans (if_pos c_180)
                  have hok := Eq.mp (if_pos c_180) hok
                  refine lv_aload_n hx hb dL_isWell_409 rfl (lv_at hl 4 rfl) ?_
                  refine lv_iload_n hx hb dL_isWell_410 rfl (lv_at hl 1 rfl) ?_
                  have h_189 := hok.1
                  have hok := hok.2
                  refine xr_V (own := RL) (v := (some (.int ((f_X9_exceptionDoor q v x3).2)))) (st1 := [.int ((f_X9_exceptionDoor q v x3).2)]) (As := [.int x3]) (rest := []) (c_X9_exceptionDoorS l hlf G qh0 q_snapshot q_history q_program q_notice va q v x3) ⟨hx, hb, hml, hown, hts⟩ g_L_35 hdv_X9_exceptionDoor hK hST hS hP [0, 1, 2, 3, 4, 5, 6, 7, 8, 9, 10, 11, 12, 13, 14, 15, 16, 17, 18, 19, 20] rfl (k0 := 0) rfl rfl rfl ⟨Nat.le_of_ble_eq_true rfl, Nat.le_of_ble_eq_true rfl⟩ ⟨(by show _ ≤ 1057; omega), (by show _ ≤ 6342; omega)⟩ rfl hl.1 rfl (Nat.le_of_ble_eq_true rfl) dL_isWell_411 rfl (fun E ce q9 H hE h1 h2 h3 h4 h5 => absurd (hE.1.trans h_189) hE.2) (fun b_188 => ?_)
                  have hP := hP
                  have b_188 := b_188.2
                  refine lv_aload_n hx hb dL_isWell_414 rfl (lv_at hl 4 rfl) ?_
                  refine lv_iload_n hx hb dL_isWell_415 rfl (lv_at hl 1 rfl) ?_
                  refine lv_iconst (v := (1 : Int32)) hx hb dL_isWell_416 (by decide) ?_
                  refine lv_isub hx hb dL_isWell_417 ?_
                  have h_191 := hok.1
                  have hok := hok.2
                  refine xr_V (own := RL) (v := (some (.int ((f_X9_exceptionDoor q v (x3 - (1 : Int32))).2)))) (st1 := [.int ((f_X9_exceptionDoor q v (x3 - (1 : Int32))).2), .int ((f_X9_exceptionDoor q v x3).2)]) (As := [.int (x3 - (1 : Int32))]) (rest := [.int ((f_X9_exceptionDoor q v x3).2)]) (c_X9_exceptionDoorS l hlf G qh0 q_snapshot q_history q_program q_notice va q v (x3 - (1 : Int32))) ⟨hx, hb, hml, hown, hts⟩ g_L_35 hdv_X9_exceptionDoor hK hST hS hP [0, 1, 2, 3, 4, 5, 6, 7, 8, 9, 10, 11, 12, 13, 14, 15, 16, 17, 18, 19, 20] rfl (k0 := 0) rfl rfl rfl ⟨Nat.le_of_ble_eq_true rfl, Nat.le_of_ble_eq_true rfl⟩ ⟨(by show _ ≤ 1057; omega), (by show _ ≤ 6342; omega)⟩ rfl hl.1 rfl (Nat.le_of_ble_eq_true rfl) dL_isWell_418 rfl (fun E ce q9 H hE h1 h2 h3 h4 h5 => absurd (hE.1.trans h_191) hE.2) (fun b_190 => ?_)
                  have hP := hP
                  have b_190 := b_190.2
                  refine lv_icmp_le (tgt := 441) hx hb dL_isWell_421 (by decide) (fun c_192 => ?_) (fun c_192 => ?_)
                  · have hI := hI.trans (if_pos c_192)
                    have hok := Eq.mp (if_pos c_192) hok
                    exact hok.elim
                  · have hI := hI.trans (if_neg c_192)
                    have hok := Eq.mp (if_neg c_192) hok
                    refine lv_aload_n hx hb dL_isWell_424 rfl (lv_at hl 4 rfl) ?_
                    refine lv_aload_n hx hb dL_isWell_425 rfl (lv_at hl 4 rfl) ?_
                    refine lv_iload_n hx hb dL_isWell_426 rfl (lv_at hl 1 rfl) ?_
                    have h_194 := hok.1
                    have hok := hok.2
                    refine xr_V (own := RL) (v := (some (.int ((f_X9_exceptionDoor q v x3).2)))) (st1 := [.int ((f_X9_exceptionDoor q v x3).2), .ref qh0]) (As := [.int x3]) (rest := [.ref qh0]) (c_X9_exceptionDoorS l hlf G qh0 q_snapshot q_history q_program q_notice va q v x3) ⟨hx, hb, hml, hown, hts⟩ g_L_35 hdv_X9_exceptionDoor hK hST hS hP [0, 1, 2, 3, 4, 5, 6, 7, 8, 9, 10, 11, 12, 13, 14, 15, 16, 17, 18, 19, 20] rfl (k0 := 0) rfl rfl rfl ⟨Nat.le_of_ble_eq_true rfl, Nat.le_of_ble_eq_true rfl⟩ ⟨(by show _ ≤ 1057; omega), (by show _ ≤ 6342; omega)⟩ rfl hl.1 rfl (Nat.le_of_ble_eq_true rfl) dL_isWell_427 rfl (fun E ce q9 H hE h1 h2 h3 h4 h5 => absurd (hE.1.trans h_194) hE.2) (fun b_193 => ?_)
                    have hP := hP
                    have b_193 := b_193.2
                    refine lv_aload_n hx hb dL_isWell_430 rfl (lv_at hl 4 rfl) ?_
                    refine lv_iload_n hx hb dL_isWell_431 rfl (lv_at hl 1 rfl) ?_
                    have h_196 := hok.1
                    have hok := hok.2
                    refine xr_V (own := RL) (v := (some (.int ((f_X9_exceptionDay q v x3).2)))) (st1 := [.int ((f_X9_exceptionDay q v x3).2), .int ((f_X9_exceptionDoor q v x3).2), .ref qh0]) (As := [.int x3]) (rest := [.int ((f_X9_exceptionDoor q v x3).2), .ref qh0]) (c_X9_exceptionDayS l hlf G qh0 q_snapshot q_history q_program q_notice va q v x3) ⟨hx, hb, hml, hown, hts⟩ g_L_41 hdv_X9_exceptionDay hK hST hS hP [0, 1, 2, 3, 4, 5, 6, 7, 8, 9, 10, 11, 12, 13, 14, 15, 16, 17, 18, 19, 20] rfl (k0 := 0) rfl rfl rfl ⟨Nat.le_of_ble_eq_true rfl, Nat.le_of_ble_eq_true rfl⟩ ⟨(by show _ ≤ 1057; omega), (by show _ ≤ 6342; omega)⟩ rfl hl.1 rfl (Nat.le_of_ble_eq_true rfl) dL_isWell_432 rfl (fun E ce q9 H hE h1 h2 h3 h4 h5 => absurd (hE.1.trans h_196) hE.2) (fun b_195 => ?_)
                    have hP := hP
                    have b_195 := b_195.2
                    have h_198 := hok.1
                    have hok := hok.2
                    refine xr_V (own := RL) (v := (some (.int ((f_X9_hasException q v ((f_X9_exceptionDoor q v x3).2) ((f_X9_exceptionDay q v x3).2)).2)))) (st1 := [.int ((f_X9_hasException q v ((f_X9_exceptionDoor q v x3).2) ((f_X9_exceptionDay q v x3).2)).2)]) (As := [.int ((f_X9_exceptionDoor q v x3).2), .int ((f_X9_exceptionDay q v x3).2)]) (rest := []) (c_X9_hasExceptionS l hlf G qh0 q_snapshot q_history q_program q_notice va q v ((f_X9_exceptionDoor q v x3).2) ((f_X9_exceptionDay q v x3).2)) ⟨hx, hb, hml, hown, hts⟩ g_L_262 hdv_X9_hasException hK hST hS hP [0, 1, 2, 3, 4, 5, 6, 7, 8, 9, 10, 11, 12, 13, 14, 15, 16, 17, 18, 19, 20] rfl (k0 := 0) rfl rfl rfl ⟨Nat.le_of_ble_eq_true rfl, Nat.le_of_ble_eq_true rfl⟩ ⟨(by show _ ≤ 1057; omega), (by show _ ≤ 6342; omega)⟩ rfl hl.1 rfl (Nat.le_of_ble_eq_true rfl) dL_isWell_435 rfl (fun E ce q9 H hE h1 h2 h3 h4 h5 => absurd (hE.1.trans h_198) hE.2) (fun b_197 => ?_)
                    have hP := hP
                    have b_197 := b_197.2
                    refine lv_if_ne (tgt := 443) hx hb dL_isWell_438 (by decide) (fun c_199 => ?_) (fun c_199 => ?_)
                    · have hI := hI.trans (if_neg c_199)
                      have hok := Eq.mp (if_neg c_199) hok
                      refine lv_iinc (v := (x3 + 1)) (lv' := [(3, .int (x3 + 1)), (4, .int y_178), (2, .int r_5.2), (1, .int r_82.2), (0, .ref qh0)]) hx hb dL_isWell_443 hl (k := 1) rfl rfl (by decide) rfl (fun ls hl => ?_)
                      refine lv_goto (tgt := 376) hx hb dL_isWell_446 (by decide) ?_
                      exact ih (x3 + 1) _ _ ls (lv_sub hl [0, 2, 3, 4] rfl) (by omega) (by omega) hI hok
                    · have hI := hI.trans (if_pos c_199)
                      have hok := Eq.mp (if_pos c_199) hok
                      exact hok.elim
        refine W.widen (k := (963)) (n := (5778)) (Nat.le_of_ble_eq_true rfl) (Nat.le_of_ble_eq_true rfl) ?_
        exact L376 13 (1 : Int32) (963) (5778) ls (lv_sub hl [0, 1, 2, 3] rfl) (Nat.le_refl _) (Nat.le_refl _) rfl hkI
      have L199 : ∀ (n : Nat) (x3 : Int32) (H : Heap) (locs : List Loc) (kc_199 ks_199 : Nat) (ls : Array Slot), lv_has ls 8 [(3, .int x3), (2, .int r_5.2), (1, .int r_82.2), (0, .ref qh0)] → va_P G.1 vwCl (fl [[(qh0, .inr (11, [.ref (va 0), .ref q_snapshot, .int q.1, .ref q_history, .ref q_program, .ref q_notice, .int q.2.1, .int q.2.2]))], wSt G va v]) H → va_D A (fl [[(qh0, .inr (11, [.ref (va 0), .ref q_snapshot, .int q.1, .ref q_history, .ref q_program, .ref q_notice, .int q.2.1, .int q.2.2]))], wSt G va v]) → va_S A s.heap H locs → kc_199 + n * 62 ≤ (405) + 558 → ks_199 + n * 372 ≤ (2430) + 3348 → (lp_L_isWell_199 q v r_5 r_82 9 (0 : Int32)) = lp_L_isWell_199 q v r_5 r_82 n x3 → okl_lp_L_isWell_199 q v r_5 r_82 n x3 → W p l e (rmd 11 1057 6342) s m ([.ref qh0] : List Value).toArray below meth c H locs kc_199 ks_199 (MQ below (wQ (fun u : Int32 => some (.int u)) (fun u : Int32 => u = f_L_isWell q v ∧ narrow .boolean (.int (f_L_isWell q v)) = .int (f_L_isWell q v)) (fun u : Int32 => fl [[(qh0, .inr (11, [.ref (va 0), .ref q_snapshot, .int q.1, .ref q_history, .ref q_program, .ref q_notice, .int q.2.1, .int q.2.2]))], wSt G va v]) G.1 A) ([.ref qh0] : List Value).toArray s 1057 6342 A) (F0 m 199 ls []) := by
        intro n
        induction n with
        | zero => intro x3 H locs kc_199 ks_199 ls hl _ _ _ _ _ hI hok; exact hok.elim
        | succ n ih =>
          intro x3 H locs kc_199 ks_199 ls hl hP hD hS hkc_199 hks_199 hI hok
          have hI : (lp_L_isWell_199 q v r_5 r_82 9 (0 : Int32)) = (if (f_X9_doorCount q v) ≤ x3 then x3 else (let r_89 : Int32 × Int32 := (lp_L_isWell_213 q v r_5 r_82 x3 25 (0 : Int32) (0 : Int32)); (let uu_92 : Int32 := (f_L_hoursUntilUnlocked q v x3); (if (((f_X9_phasesOf q v x3).2 >>> ((f_X9_phaseOn q v (f_X9_day q v)).2 &&& 31)) &&& (1 : Int32)) = (1 : Int32) then (if (f_X9_hourCount q v x3).2 = r_89.2 then (if r_89.2 < (1 : Int32) then x3 else (let uu_136 : Int32 := (f_L_hoursUntilUnlockedByDays q v x3); (if uu_92 = uu_136 then (if uu_92 = (0 : Int32) then (if (1 : Int32) = (f_X9_isUnlocked q v x3).2 then (if (f_X9_hasException q v x3 (f_X9_day q v)).2 = (0 : Int32) then (if (f_X9_isHourOf q v x3 (f_X9_hour q v)).2 = (0 : Int32) then (if (f_X9_isUnlocked q v x3).2 = (0 : Int32) then (lp_L_isWell_199 q v r_5 r_82 n (x3 + 1)) else x3) else (if (f_X9_isUnlocked q v x3).2 = (1 : Int32) then (lp_L_isWell_199 q v r_5 r_82 n (x3 + 1)) else x3)) else (lp_L_isWell_199 q v r_5 r_82 n (x3 + 1))) else x3) else (if (0 : Int32) = (f_X9_isUnlocked q v x3).2 then (if (f_X9_hasException q v x3 (f_X9_day q v)).2 = (0 : Int32) then (if (f_X9_isHourOf q v x3 (f_X9_hour q v)).2 = (0 : Int32) then (if (f_X9_isUnlocked q v x3).2 = (0 : Int32) then (lp_L_isWell_199 q v r_5 r_82 n (x3 + 1)) else x3) else (if (f_X9_isUnlocked q v x3).2 = (1 : Int32) then (lp_L_isWell_199 q v r_5 r_82 n (x3 + 1)) else x3)) else (lp_L_isWell_199 q v r_5 r_82 n (x3 + 1))) else x3)) else x3))) else x3) else (if (f_X9_hourCount q v x3).2 = r_89.2 then (if r_89.2 < (1 : Int32) then x3 else (let uu_105 : Int32 := (f_L_hoursUntilUnlockedByDays q v x3); (if uu_92 = uu_105 then (if uu_92 = (0 : Int32) then (if (1 : Int32) = (f_X9_isUnlocked q v x3).2 then (if (f_X9_hasException q v x3 (f_X9_day q v)).2 = (0 : Int32) then (if (f_X9_isUnlocked q v x3).2 = (0 : Int32) then (lp_L_isWell_199 q v r_5 r_82 n (x3 + 1)) else x3) else (lp_L_isWell_199 q v r_5 r_82 n (x3 + 1))) else x3) else (if (0 : Int32) = (f_X9_isUnlocked q v x3).2 then (if (f_X9_hasException q v x3 (f_X9_day q v)).2 = (0 : Int32) then (if (f_X9_isUnlocked q v x3).2 = (0 : Int32) then (lp_L_isWell_199 q v r_5 r_82 n (x3 + 1)) else x3) else (lp_L_isWell_199 q v r_5 r_82 n (x3 + 1))) else x3)) else x3))) else x3))))) := hI
          have hok : (if (f_X9_doorCount q v) ≤ x3 then True else (okl_lp_L_isWell_213 q v r_5 r_82 x3 25 (0 : Int32) (0 : Int32) ∧ (∀ r_89 : Int32 × Int32, r_89 = (lp_L_isWell_213 q v r_5 r_82 x3 25 (0 : Int32) (0 : Int32)) → (ok_L_hoursUntilUnlocked q v x3 ∧ (∀ uu_92 : Int32, uu_92 = (f_L_hoursUntilUnlocked q v x3) → ((f_X9_phasesOf q v x3).1 = "" ∧ ((f_X9_phaseOn q v (f_X9_day q v)).1 = "" ∧ (if (((f_X9_phasesOf q v x3).2 >>> ((f_X9_phaseOn q v (f_X9_day q v)).2 &&& 31)) &&& (1 : Int32)) = (1 : Int32) then ((f_X9_hourCount q v x3).1 = "" ∧ (if (f_X9_hourCount q v x3).2 = r_89.2 then (if r_89.2 < (1 : Int32) then False else (ok_L_hoursUntilUnlockedByDays q v x3 ∧ (∀ uu_136 : Int32, uu_136 = (f_L_hoursUntilUnlockedByDays q v x3) → (if uu_92 = uu_136 then (if uu_92 = (0 : Int32) then ((f_X9_isUnlocked q v x3).1 = "" ∧ (if (1 : Int32) = (f_X9_isUnlocked q v x3).2 then ((f_X9_hasException q v x3 (f_X9_day q v)).1 = "" ∧ (if (f_X9_hasException q v x3 (f_X9_day q v)).2 = (0 : Int32) then ((f_X9_isUnlocked q v x3).1 = "" ∧ ((f_X9_isHourOf q v x3 (f_X9_hour q v)).1 = "" ∧ (if (f_X9_isHourOf q v x3 (f_X9_hour q v)).2 = (0 : Int32) then (if (f_X9_isUnlocked q v x3).2 = (0 : Int32) then (okl_lp_L_isWell_199 q v r_5 r_82 n (x3 + 1)) else False) else (if (f_X9_isUnlocked q v x3).2 = (1 : Int32) then (okl_lp_L_isWell_199 q v r_5 r_82 n (x3 + 1)) else False)))) else (okl_lp_L_isWell_199 q v r_5 r_82 n (x3 + 1)))) else False)) else ((f_X9_isUnlocked q v x3).1 = "" ∧ (if (0 : Int32) = (f_X9_isUnlocked q v x3).2 then ((f_X9_hasException q v x3 (f_X9_day q v)).1 = "" ∧ (if (f_X9_hasException q v x3 (f_X9_day q v)).2 = (0 : Int32) then ((f_X9_isUnlocked q v x3).1 = "" ∧ ((f_X9_isHourOf q v x3 (f_X9_hour q v)).1 = "" ∧ (if (f_X9_isHourOf q v x3 (f_X9_hour q v)).2 = (0 : Int32) then (if (f_X9_isUnlocked q v x3).2 = (0 : Int32) then (okl_lp_L_isWell_199 q v r_5 r_82 n (x3 + 1)) else False) else (if (f_X9_isUnlocked q v x3).2 = (1 : Int32) then (okl_lp_L_isWell_199 q v r_5 r_82 n (x3 + 1)) else False)))) else (okl_lp_L_isWell_199 q v r_5 r_82 n (x3 + 1)))) else False))) else False)))) else False)) else ((f_X9_hourCount q v x3).1 = "" ∧ (if (f_X9_hourCount q v x3).2 = r_89.2 then (if r_89.2 < (1 : Int32) then False else (ok_L_hoursUntilUnlockedByDays q v x3 ∧ (∀ uu_105 : Int32, uu_105 = (f_L_hoursUntilUnlockedByDays q v x3) → (if uu_92 = uu_105 then (if uu_92 = (0 : Int32) then ((f_X9_isUnlocked q v x3).1 = "" ∧ (if (1 : Int32) = (f_X9_isUnlocked q v x3).2 then ((f_X9_hasException q v x3 (f_X9_day q v)).1 = "" ∧ (if (f_X9_hasException q v x3 (f_X9_day q v)).2 = (0 : Int32) then ((f_X9_isUnlocked q v x3).1 = "" ∧ (if (f_X9_isUnlocked q v x3).2 = (0 : Int32) then (okl_lp_L_isWell_199 q v r_5 r_82 n (x3 + 1)) else False)) else (okl_lp_L_isWell_199 q v r_5 r_82 n (x3 + 1)))) else False)) else ((f_X9_isUnlocked q v x3).1 = "" ∧ (if (0 : Int32) = (f_X9_isUnlocked q v x3).2 then ((f_X9_hasException q v x3 (f_X9_day q v)).1 = "" ∧ (if (f_X9_hasException q v x3 (f_X9_day q v)).2 = (0 : Int32) then ((f_X9_isUnlocked q v x3).1 = "" ∧ (if (f_X9_isUnlocked q v x3).2 = (0 : Int32) then (okl_lp_L_isWell_199 q v r_5 r_82 n (x3 + 1)) else False)) else (okl_lp_L_isWell_199 q v r_5 r_82 n (x3 + 1)))) else False))) else False)))) else False)))))))))) := hok
          refine lv_iload_n hx hb dL_isWell_199 rfl (lv_at hl 0 rfl) ?_
          refine lv_aload_n hx hb dL_isWell_200 rfl (lv_at hl 3 rfl) ?_
          refine r_V (own := RL) (v := (some (.int (f_X9_doorCount q v)))) (st1 := [.int (f_X9_doorCount q v), .int x3]) (As := []) (rest := [.int x3]) (c_X9_doorCountS l G qh0 q_snapshot q_history q_program q_notice va q v) ⟨hx, hb, hml, hown, hts⟩ g_L_202 hdv_X9_doorCount hK hST hS hP [0, 1, 2, 3, 4, 5, 6, 7, 8, 9, 10, 11, 12, 13, 14, 15, 16, 17, 18, 19, 20] rfl (k0 := 0) rfl rfl rfl ⟨Nat.le_of_ble_eq_true rfl, Nat.le_of_ble_eq_true rfl⟩ ⟨(by show _ ≤ 1057; omega), (by show _ ≤ 6342; omega)⟩ rfl hl.1 rfl (Nat.le_of_ble_eq_true rfl) dL_isWell_201 rfl (fun b_83 => ?_)
          refine lv_icmp_ge (tgt := 374) hx hb dL_isWell_204 (by decide) (fun c_84 => ?_) (fun c_84 => ?_)
          · have hI := hI.trans (if_pos c_84)
            have hok := Eq.mp (if_pos c_84) hok
            refine W.widen (k := (963)) (n := (5778)) (by omega) (by omega) ?_
            exact K199 _ hI.symm _ _ ls (lv_sub hl [0, 1, 2, 3] rfl) hP hD hS
          · have hI := hI.trans (if_neg c_84)
            have hok := Eq.mp (if_neg c_84) hok
            refine lv_iconst (v := (0 : Int32)) hx hb dL_isWell_207 (by decide) ?_
            refine lv_istore (lv' := [(4, .int (0 : Int32)), (3, .int x3), (2, .int r_5.2), (1, .int r_82.2), (0, .ref qh0)]) hx hb dL_isWell_208 hl (by decide) rfl (fun ls hl => ?_)
            refine lv_iconst (v := (0 : Int32)) hx hb dL_isWell_210 (by decide) ?_
            refine lv_istore (lv' := [(5, .int (0 : Int32)), (4, .int (0 : Int32)), (3, .int x3), (2, .int r_5.2), (1, .int r_82.2), (0, .ref qh0)]) hx hb dL_isWell_211 hl (by decide) rfl (fun ls hl => ?_)
            have hkI := hok.1
            have hok := hok.2
            have K213 : ∀ (r_89 : Int32 × Int32), r_89 = (lp_L_isWell_213 q v r_5 r_82 x3 25 (0 : Int32) (0 : Int32)) → ∀ (ls : Array Slot), lv_has ls 8 [(5, .int r_89.1), (4, .int r_89.2), (3, .int x3), (2, .int r_5.2), (1, .int r_82.2), (0, .ref qh0)] → W p l e (rmd 11 1057 6342) s m ([.ref qh0] : List Value).toArray below meth c H locs (kc_199 + 50) (ks_199 + 300) (MQ below (wQ (fun u : Int32 => some (.int u)) (fun u : Int32 => u = f_L_isWell q v ∧ narrow .boolean (.int (f_L_isWell q v)) = .int (f_L_isWell q v)) (fun u : Int32 => fl [[(qh0, .inr (11, [.ref (va 0), .ref q_snapshot, .int q.1, .ref q_history, .ref q_program, .ref q_notice, .int q.2.1, .int q.2.2]))], wSt G va v]) G.1 A) ([.ref qh0] : List Value).toArray s 1057 6342 A) (F0 m 246 ls []) := by
              intro r_89 er_89 ls hl
              have hI : (lp_L_isWell_199 q v r_5 r_82 9 (0 : Int32)) = (let uu_92 : Int32 := (f_L_hoursUntilUnlocked q v x3); (if (((f_X9_phasesOf q v x3).2 >>> ((f_X9_phaseOn q v (f_X9_day q v)).2 &&& 31)) &&& (1 : Int32)) = (1 : Int32) then (if (f_X9_hourCount q v x3).2 = r_89.2 then (if r_89.2 < (1 : Int32) then x3 else (let uu_136 : Int32 := (f_L_hoursUntilUnlockedByDays q v x3); (if uu_92 = uu_136 then (if uu_92 = (0 : Int32) then (if (1 : Int32) = (f_X9_isUnlocked q v x3).2 then (if (f_X9_hasException q v x3 (f_X9_day q v)).2 = (0 : Int32) then (if (f_X9_isHourOf q v x3 (f_X9_hour q v)).2 = (0 : Int32) then (if (f_X9_isUnlocked q v x3).2 = (0 : Int32) then (lp_L_isWell_199 q v r_5 r_82 n (x3 + 1)) else x3) else (if (f_X9_isUnlocked q v x3).2 = (1 : Int32) then (lp_L_isWell_199 q v r_5 r_82 n (x3 + 1)) else x3)) else (lp_L_isWell_199 q v r_5 r_82 n (x3 + 1))) else x3) else (if (0 : Int32) = (f_X9_isUnlocked q v x3).2 then (if (f_X9_hasException q v x3 (f_X9_day q v)).2 = (0 : Int32) then (if (f_X9_isHourOf q v x3 (f_X9_hour q v)).2 = (0 : Int32) then (if (f_X9_isUnlocked q v x3).2 = (0 : Int32) then (lp_L_isWell_199 q v r_5 r_82 n (x3 + 1)) else x3) else (if (f_X9_isUnlocked q v x3).2 = (1 : Int32) then (lp_L_isWell_199 q v r_5 r_82 n (x3 + 1)) else x3)) else (lp_L_isWell_199 q v r_5 r_82 n (x3 + 1))) else x3)) else x3))) else x3) else (if (f_X9_hourCount q v x3).2 = r_89.2 then (if r_89.2 < (1 : Int32) then x3 else (let uu_105 : Int32 := (f_L_hoursUntilUnlockedByDays q v x3); (if uu_92 = uu_105 then (if uu_92 = (0 : Int32) then (if (1 : Int32) = (f_X9_isUnlocked q v x3).2 then (if (f_X9_hasException q v x3 (f_X9_day q v)).2 = (0 : Int32) then (if (f_X9_isUnlocked q v x3).2 = (0 : Int32) then (lp_L_isWell_199 q v r_5 r_82 n (x3 + 1)) else x3) else (lp_L_isWell_199 q v r_5 r_82 n (x3 + 1))) else x3) else (if (0 : Int32) = (f_X9_isUnlocked q v x3).2 then (if (f_X9_hasException q v x3 (f_X9_day q v)).2 = (0 : Int32) then (if (f_X9_isUnlocked q v x3).2 = (0 : Int32) then (lp_L_isWell_199 q v r_5 r_82 n (x3 + 1)) else x3) else (lp_L_isWell_199 q v r_5 r_82 n (x3 + 1))) else x3)) else x3))) else x3))) := by subst er_89; exact hI
              have hok : (ok_L_hoursUntilUnlocked q v x3 ∧ (∀ uu_92 : Int32, uu_92 = (f_L_hoursUntilUnlocked q v x3) → ((f_X9_phasesOf q v x3).1 = "" ∧ ((f_X9_phaseOn q v (f_X9_day q v)).1 = "" ∧ (if (((f_X9_phasesOf q v x3).2 >>> ((f_X9_phaseOn q v (f_X9_day q v)).2 &&& 31)) &&& (1 : Int32)) = (1 : Int32) then ((f_X9_hourCount q v x3).1 = "" ∧ (if (f_X9_hourCount q v x3).2 = r_89.2 then (if r_89.2 < (1 : Int32) then False else (ok_L_hoursUntilUnlockedByDays q v x3 ∧ (∀ uu_136 : Int32, uu_136 = (f_L_hoursUntilUnlockedByDays q v x3) → (if uu_92 = uu_136 then (if uu_92 = (0 : Int32) then ((f_X9_isUnlocked q v x3).1 = "" ∧ (if (1 : Int32) = (f_X9_isUnlocked q v x3).2 then ((f_X9_hasException q v x3 (f_X9_day q v)).1 = "" ∧ (if (f_X9_hasException q v x3 (f_X9_day q v)).2 = (0 : Int32) then ((f_X9_isUnlocked q v x3).1 = "" ∧ ((f_X9_isHourOf q v x3 (f_X9_hour q v)).1 = "" ∧ (if (f_X9_isHourOf q v x3 (f_X9_hour q v)).2 = (0 : Int32) then (if (f_X9_isUnlocked q v x3).2 = (0 : Int32) then (okl_lp_L_isWell_199 q v r_5 r_82 n (x3 + 1)) else False) else (if (f_X9_isUnlocked q v x3).2 = (1 : Int32) then (okl_lp_L_isWell_199 q v r_5 r_82 n (x3 + 1)) else False)))) else (okl_lp_L_isWell_199 q v r_5 r_82 n (x3 + 1)))) else False)) else ((f_X9_isUnlocked q v x3).1 = "" ∧ (if (0 : Int32) = (f_X9_isUnlocked q v x3).2 then ((f_X9_hasException q v x3 (f_X9_day q v)).1 = "" ∧ (if (f_X9_hasException q v x3 (f_X9_day q v)).2 = (0 : Int32) then ((f_X9_isUnlocked q v x3).1 = "" ∧ ((f_X9_isHourOf q v x3 (f_X9_hour q v)).1 = "" ∧ (if (f_X9_isHourOf q v x3 (f_X9_hour q v)).2 = (0 : Int32) then (if (f_X9_isUnlocked q v x3).2 = (0 : Int32) then (okl_lp_L_isWell_199 q v r_5 r_82 n (x3 + 1)) else False) else (if (f_X9_isUnlocked q v x3).2 = (1 : Int32) then (okl_lp_L_isWell_199 q v r_5 r_82 n (x3 + 1)) else False)))) else (okl_lp_L_isWell_199 q v r_5 r_82 n (x3 + 1)))) else False))) else False)))) else False)) else ((f_X9_hourCount q v x3).1 = "" ∧ (if (f_X9_hourCount q v x3).2 = r_89.2 then (if r_89.2 < (1 : Int32) then False else (ok_L_hoursUntilUnlockedByDays q v x3 ∧ (∀ uu_105 : Int32, uu_105 = (f_L_hoursUntilUnlockedByDays q v x3) → (if uu_92 = uu_105 then (if uu_92 = (0 : Int32) then ((f_X9_isUnlocked q v x3).1 = "" ∧ (if (1 : Int32) = (f_X9_isUnlocked q v x3).2 then ((f_X9_hasException q v x3 (f_X9_day q v)).1 = "" ∧ (if (f_X9_hasException q v x3 (f_X9_day q v)).2 = (0 : Int32) then ((f_X9_isUnlocked q v x3).1 = "" ∧ (if (f_X9_isUnlocked q v x3).2 = (0 : Int32) then (okl_lp_L_isWell_199 q v r_5 r_82 n (x3 + 1)) else False)) else (okl_lp_L_isWell_199 q v r_5 r_82 n (x3 + 1)))) else False)) else ((f_X9_isUnlocked q v x3).1 = "" ∧ (if (0 : Int32) = (f_X9_isUnlocked q v x3).2 then ((f_X9_hasException q v x3 (f_X9_day q v)).1 = "" ∧ (if (f_X9_hasException q v x3 (f_X9_day q v)).2 = (0 : Int32) then ((f_X9_isUnlocked q v x3).1 = "" ∧ (if (f_X9_isUnlocked q v x3).2 = (0 : Int32) then (okl_lp_L_isWell_199 q v r_5 r_82 n (x3 + 1)) else False)) else (okl_lp_L_isWell_199 q v r_5 r_82 n (x3 + 1)))) else False))) else False)))) else False))))))) := hok _ er_89
              refine lv_aload_n hx hb dL_isWell_246 rfl (lv_at hl 5 rfl) ?_
              refine lv_iload_n hx hb dL_isWell_247 rfl (lv_at hl 2 rfl) ?_
              have k_90 := hok.1
              have hok := hok.2
              refine w_SH (own := RL) (cs := [[(qh0, .inr (11, [.ref (va 0), .ref q_snapshot, .int q.1, .ref q_history, .ref q_program, .ref q_notice, .int q.2.1, .int q.2.2]))], wSt G va v]) (rs := []) (As := [.ref qh0, .int x3]) (rest := []) (c_L_hoursUntilUnlocked l hlf G qh0 q_snapshot q_history q_program q_notice va H.size q v x3 k_90) ⟨hx, hb, hml, hown, hts⟩ gh_L_258 hds_L_hoursUntilUnlocked hK hST hS hP hD hA [0, 1] [] rfl rfl rfl ⟨Nat.le_of_ble_eq_true rfl, Nat.le_of_ble_eq_true rfl⟩ ⟨(by show _ ≤ 1057; omega), (by show _ ≤ 6342; omega)⟩ rfl hl.1 rfl (Nat.le_of_ble_eq_true rfl) dL_isWell_248 (fun uu_92 H locs huu hP hD hS => ?_)
              have euu_92 := huu
              have hP : va_P G.1 vwCl (fl [[(qh0, .inr (11, [.ref (va 0), .ref q_snapshot, .int q.1, .ref q_history, .ref q_program, .ref q_notice, .int q.2.1, .int q.2.2]))], wSt G va v]) H := hP
              have hD : va_D A (fl [[(qh0, .inr (11, [.ref (va 0), .ref q_snapshot, .int q.1, .ref q_history, .ref q_program, .ref q_notice, .int q.2.1, .int q.2.2]))], wSt G va v]) := hD
              refine W.eq (g2 := F0 m 251 ls [.int uu_92]) rfl ?_
              have hI : (lp_L_isWell_199 q v r_5 r_82 9 (0 : Int32)) = (if (((f_X9_phasesOf q v x3).2 >>> ((f_X9_phaseOn q v (f_X9_day q v)).2 &&& 31)) &&& (1 : Int32)) = (1 : Int32) then (if (f_X9_hourCount q v x3).2 = r_89.2 then (if r_89.2 < (1 : Int32) then x3 else (let uu_136 : Int32 := (f_L_hoursUntilUnlockedByDays q v x3); (if uu_92 = uu_136 then (if uu_92 = (0 : Int32) then (if (1 : Int32) = (f_X9_isUnlocked q v x3).2 then (if (f_X9_hasException q v x3 (f_X9_day q v)).2 = (0 : Int32) then (if (f_X9_isHourOf q v x3 (f_X9_hour q v)).2 = (0 : Int32) then (if (f_X9_isUnlocked q v x3).2 = (0 : Int32) then (lp_L_isWell_199 q v r_5 r_82 n (x3 + 1)) else x3) else (if (f_X9_isUnlocked q v x3).2 = (1 : Int32) then (lp_L_isWell_199 q v r_5 r_82 n (x3 + 1)) else x3)) else (lp_L_isWell_199 q v r_5 r_82 n (x3 + 1))) else x3) else (if (0 : Int32) = (f_X9_isUnlocked q v x3).2 then (if (f_X9_hasException q v x3 (f_X9_day q v)).2 = (0 : Int32) then (if (f_X9_isHourOf q v x3 (f_X9_hour q v)).2 = (0 : Int32) then (if (f_X9_isUnlocked q v x3).2 = (0 : Int32) then (lp_L_isWell_199 q v r_5 r_82 n (x3 + 1)) else x3) else (if (f_X9_isUnlocked q v x3).2 = (1 : Int32) then (lp_L_isWell_199 q v r_5 r_82 n (x3 + 1)) else x3)) else (lp_L_isWell_199 q v r_5 r_82 n (x3 + 1))) else x3)) else x3))) else x3) else (if (f_X9_hourCount q v x3).2 = r_89.2 then (if r_89.2 < (1 : Int32) then x3 else (let uu_105 : Int32 := (f_L_hoursUntilUnlockedByDays q v x3); (if uu_92 = uu_105 then (if uu_92 = (0 : Int32) then (if (1 : Int32) = (f_X9_isUnlocked q v x3).2 then (if (f_X9_hasException q v x3 (f_X9_day q v)).2 = (0 : Int32) then (if (f_X9_isUnlocked q v x3).2 = (0 : Int32) then (lp_L_isWell_199 q v r_5 r_82 n (x3 + 1)) else x3) else (lp_L_isWell_199 q v r_5 r_82 n (x3 + 1))) else x3) else (if (0 : Int32) = (f_X9_isUnlocked q v x3).2 then (if (f_X9_hasException q v x3 (f_X9_day q v)).2 = (0 : Int32) then (if (f_X9_isUnlocked q v x3).2 = (0 : Int32) then (lp_L_isWell_199 q v r_5 r_82 n (x3 + 1)) else x3) else (lp_L_isWell_199 q v r_5 r_82 n (x3 + 1))) else x3)) else x3))) else x3)) := by subst euu_92; exact hI
              have hok : ((f_X9_phasesOf q v x3).1 = "" ∧ ((f_X9_phaseOn q v (f_X9_day q v)).1 = "" ∧ (if (((f_X9_phasesOf q v x3).2 >>> ((f_X9_phaseOn q v (f_X9_day q v)).2 &&& 31)) &&& (1 : Int32)) = (1 : Int32) then ((f_X9_hourCount q v x3).1 = "" ∧ (if (f_X9_hourCount q v x3).2 = r_89.2 then (if r_89.2 < (1 : Int32) then False else (ok_L_hoursUntilUnlockedByDays q v x3 ∧ (∀ uu_136 : Int32, uu_136 = (f_L_hoursUntilUnlockedByDays q v x3) → (if uu_92 = uu_136 then (if uu_92 = (0 : Int32) then ((f_X9_isUnlocked q v x3).1 = "" ∧ (if (1 : Int32) = (f_X9_isUnlocked q v x3).2 then ((f_X9_hasException q v x3 (f_X9_day q v)).1 = "" ∧ (if (f_X9_hasException q v x3 (f_X9_day q v)).2 = (0 : Int32) then ((f_X9_isUnlocked q v x3).1 = "" ∧ ((f_X9_isHourOf q v x3 (f_X9_hour q v)).1 = "" ∧ (if (f_X9_isHourOf q v x3 (f_X9_hour q v)).2 = (0 : Int32) then (if (f_X9_isUnlocked q v x3).2 = (0 : Int32) then (okl_lp_L_isWell_199 q v r_5 r_82 n (x3 + 1)) else False) else (if (f_X9_isUnlocked q v x3).2 = (1 : Int32) then (okl_lp_L_isWell_199 q v r_5 r_82 n (x3 + 1)) else False)))) else (okl_lp_L_isWell_199 q v r_5 r_82 n (x3 + 1)))) else False)) else ((f_X9_isUnlocked q v x3).1 = "" ∧ (if (0 : Int32) = (f_X9_isUnlocked q v x3).2 then ((f_X9_hasException q v x3 (f_X9_day q v)).1 = "" ∧ (if (f_X9_hasException q v x3 (f_X9_day q v)).2 = (0 : Int32) then ((f_X9_isUnlocked q v x3).1 = "" ∧ ((f_X9_isHourOf q v x3 (f_X9_hour q v)).1 = "" ∧ (if (f_X9_isHourOf q v x3 (f_X9_hour q v)).2 = (0 : Int32) then (if (f_X9_isUnlocked q v x3).2 = (0 : Int32) then (okl_lp_L_isWell_199 q v r_5 r_82 n (x3 + 1)) else False) else (if (f_X9_isUnlocked q v x3).2 = (1 : Int32) then (okl_lp_L_isWell_199 q v r_5 r_82 n (x3 + 1)) else False)))) else (okl_lp_L_isWell_199 q v r_5 r_82 n (x3 + 1)))) else False))) else False)))) else False)) else ((f_X9_hourCount q v x3).1 = "" ∧ (if (f_X9_hourCount q v x3).2 = r_89.2 then (if r_89.2 < (1 : Int32) then False else (ok_L_hoursUntilUnlockedByDays q v x3 ∧ (∀ uu_105 : Int32, uu_105 = (f_L_hoursUntilUnlockedByDays q v x3) → (if uu_92 = uu_105 then (if uu_92 = (0 : Int32) then ((f_X9_isUnlocked q v x3).1 = "" ∧ (if (1 : Int32) = (f_X9_isUnlocked q v x3).2 then ((f_X9_hasException q v x3 (f_X9_day q v)).1 = "" ∧ (if (f_X9_hasException q v x3 (f_X9_day q v)).2 = (0 : Int32) then ((f_X9_isUnlocked q v x3).1 = "" ∧ (if (f_X9_isUnlocked q v x3).2 = (0 : Int32) then (okl_lp_L_isWell_199 q v r_5 r_82 n (x3 + 1)) else False)) else (okl_lp_L_isWell_199 q v r_5 r_82 n (x3 + 1)))) else False)) else ((f_X9_isUnlocked q v x3).1 = "" ∧ (if (0 : Int32) = (f_X9_isUnlocked q v x3).2 then ((f_X9_hasException q v x3 (f_X9_day q v)).1 = "" ∧ (if (f_X9_hasException q v x3 (f_X9_day q v)).2 = (0 : Int32) then ((f_X9_isUnlocked q v x3).1 = "" ∧ (if (f_X9_isUnlocked q v x3).2 = (0 : Int32) then (okl_lp_L_isWell_199 q v r_5 r_82 n (x3 + 1)) else False)) else (okl_lp_L_isWell_199 q v r_5 r_82 n (x3 + 1)))) else False))) else False)))) else False))))) := hok _ euu_92
              refine lv_istore (lv' := [(5, .int uu_92), (4, .int r_89.2), (3, .int x3), (2, .int r_5.2), (1, .int r_82.2), (0, .ref qh0)]) hx hb dL_isWell_251 hl (by decide) rfl (fun ls hl => ?_)
              refine lv_aload_n hx hb dL_isWell_253 rfl (lv_at hl 5 rfl) ?_
              refine lv_iload_n hx hb dL_isWell_254 rfl (lv_at hl 2 rfl) ?_
              have h_94 := hok.1
              have hok := hok.2
              refine xr_V (own := RL) (v := (some (.int ((f_X9_phasesOf q v x3).2)))) (st1 := [.int ((f_X9_phasesOf q v x3).2)]) (As := [.int x3]) (rest := []) (c_X9_phasesOfS l hlf G qh0 q_snapshot q_history q_program q_notice va q v x3) ⟨hx, hb, hml, hown, hts⟩ g_L_211 hdv_X9_phasesOf hK hST hS hP [0, 1, 2, 3, 4, 5, 6, 7, 8, 9, 10, 11, 12, 13, 14, 15, 16, 17, 18, 19, 20] rfl (k0 := 0) rfl rfl rfl ⟨Nat.le_of_ble_eq_true rfl, Nat.le_of_ble_eq_true rfl⟩ ⟨(by show _ ≤ 1057; omega), (by show _ ≤ 6342; omega)⟩ rfl hl.1 rfl (Nat.le_of_ble_eq_true rfl) dL_isWell_255 rfl (fun E ce q9 H hE h1 h2 h3 h4 h5 => absurd (hE.1.trans h_94) hE.2) (fun b_93 => ?_)
              have hP := hP
              have b_93 := b_93.2
              refine lv_aload_n hx hb dL_isWell_258 rfl (lv_at hl 5 rfl) ?_
              refine lv_aload_n hx hb dL_isWell_259 rfl (lv_at hl 5 rfl) ?_
              refine r_V (own := RL) (v := (some (.int (f_X9_day q v)))) (st1 := [.int (f_X9_day q v), .ref qh0, .int ((f_X9_phasesOf q v x3).2)]) (As := []) (rest := [.ref qh0, .int ((f_X9_phasesOf q v x3).2)]) (c_X9_dayS l G qh0 q_snapshot q_history q_program q_notice va q v) ⟨hx, hb, hml, hown, hts⟩ g_L_149 hdv_X9_day hK hST hS hP [0, 1, 2, 3, 4, 5, 6, 7, 8, 9, 10, 11, 12, 13, 14, 15, 16, 17, 18, 19, 20] rfl (k0 := 0) rfl rfl rfl ⟨Nat.le_of_ble_eq_true rfl, Nat.le_of_ble_eq_true rfl⟩ ⟨(by show _ ≤ 1057; omega), (by show _ ≤ 6342; omega)⟩ rfl hl.1 rfl (Nat.le_of_ble_eq_true rfl) dL_isWell_260 rfl (fun b_95 => ?_)
              have h_97 := hok.1
              have hok := hok.2
              refine xr_V (own := RL) (v := (some (.int ((f_X9_phaseOn q v (f_X9_day q v)).2)))) (st1 := [.int ((f_X9_phaseOn q v (f_X9_day q v)).2), .int ((f_X9_phasesOf q v x3).2)]) (As := [.int (f_X9_day q v)]) (rest := [.int ((f_X9_phasesOf q v x3).2)]) (c_X9_phaseOnS l hlf G qh0 q_snapshot q_history q_program q_notice va q v (f_X9_day q v)) ⟨hx, hb, hml, hown, hts⟩ g_L_244 hdv_X9_phaseOn hK hST hS hP [0, 1, 2, 3, 4, 5, 6, 7, 8, 9, 10, 11, 12, 13, 14, 15, 16, 17, 18, 19, 20] rfl (k0 := 0) rfl rfl rfl ⟨Nat.le_of_ble_eq_true rfl, Nat.le_of_ble_eq_true rfl⟩ ⟨(by show _ ≤ 1057; omega), (by show _ ≤ 6342; omega)⟩ rfl hl.1 rfl (Nat.le_of_ble_eq_true rfl) dL_isWell_263 rfl (fun E ce q9 H hE h1 h2 h3 h4 h5 => absurd (hE.1.trans h_97) hE.2) (fun b_96 => ?_)
              have hP := hP
              have b_96 := b_96.2
              refine lv_ishr hx hb dL_isWell_266 ?_
              refine lv_iconst (v := (1 : Int32)) hx hb dL_isWell_267 (by decide) ?_
              refine lv_iand hx hb dL_isWell_268 ?_
              refine lv_iconst (v := (1 : Int32)) hx hb dL_isWell_269 (by decide) ?_
              refine lv_icmp_ne (tgt := 277) hx hb dL_isWell_270 (by decide) (fun c_98 => ?_) (fun c_98 => ?_)
              · have hI := hI.trans (if_neg c_98)
                have hok := Eq.mp (if_neg c_98) hok
                refine lv_iconst (v := (0 : Int32)) hx hb dL_isWell_277 (by decide) ?_
                refine lv_istore (lv' := [(6, .int (0 : Int32)), (5, .int uu_92), (4, .int r_89.2), (3, .int x3), (2, .int r_5.2), (1, .int r_82.2), (0, .ref qh0)]) hx hb dL_isWell_278 hl (by decide) rfl (fun ls hl => ?_)
                refine lv_aload_n hx hb dL_isWell_280 rfl (lv_at hl 6 rfl) ?_
                refine lv_iload_n hx hb dL_isWell_281 rfl (lv_at hl 3 rfl) ?_
                have h_100 := hok.1
                have hok := hok.2
                refine xr_V (own := RL) (v := (some (.int ((f_X9_hourCount q v x3).2)))) (st1 := [.int ((f_X9_hourCount q v x3).2)]) (As := [.int x3]) (rest := []) (c_X9_hourCountS l hlf G qh0 q_snapshot q_history q_program q_notice va q v x3) ⟨hx, hb, hml, hown, hts⟩ g_L_217 hdv_X9_hourCount hK hST hS hP [0, 1, 2, 3, 4, 5, 6, 7, 8, 9, 10, 11, 12, 13, 14, 15, 16, 17, 18, 19, 20] rfl (k0 := 0) rfl rfl rfl ⟨Nat.le_of_ble_eq_true rfl, Nat.le_of_ble_eq_true rfl⟩ ⟨(by show _ ≤ 1057; omega), (by show _ ≤ 6342; omega)⟩ rfl hl.1 rfl (Nat.le_of_ble_eq_true rfl) dL_isWell_282 rfl (fun E ce q9 H hE h1 h2 h3 h4 h5 => absurd (hE.1.trans h_100) hE.2) (fun b_99 => ?_)
                have hP := hP
                have b_99 := b_99.2
                refine lv_iload hx hb dL_isWell_285 (lv_at hl 2 rfl) ?_
                refine lv_icmp_ne (tgt := 366) hx hb dL_isWell_287 (by decide) (fun c_101 => ?_) (fun c_101 => ?_)
                · have hI := hI.trans (if_neg c_101)
                  have hok := Eq.mp (if_neg c_101) hok
                  exact hok.elim
                · have hI := hI.trans (if_pos c_101)
                  have hok := Eq.mp (if_pos c_101) hok
                  refine lv_iload hx hb dL_isWell_290 (lv_at hl 2 rfl) ?_
                  refine lv_iconst (v := (1 : Int32)) hx hb dL_isWell_292 (by decide) ?_
                  refine lv_icmp_lt (tgt := 366) hx hb dL_isWell_293 (by decide) (fun c_102 => ?_) (fun c_102 => ?_)
                  · have hI := hI.trans (if_pos c_102)
                    have hok := Eq.mp (if_pos c_102) hok
                    exact hok.elim
                  · have hI := hI.trans (if_neg c_102)
                    have hok := Eq.mp (if_neg c_102) hok
                    refine lv_iload hx hb dL_isWell_296 (lv_at hl 1 rfl) ?_
                    refine lv_aload_n hx hb dL_isWell_298 rfl (lv_at hl 6 rfl) ?_
                    refine lv_iload_n hx hb dL_isWell_299 rfl (lv_at hl 3 rfl) ?_
                    have k_103 := hok.1
                    have hok := hok.2
                    refine w_SH (own := RL) (cs := [[(qh0, .inr (11, [.ref (va 0), .ref q_snapshot, .int q.1, .ref q_history, .ref q_program, .ref q_notice, .int q.2.1, .int q.2.2]))], wSt G va v]) (rs := []) (As := [.ref qh0, .int x3]) (rest := [.int uu_92]) (c_L_hoursUntilUnlockedByDays l hlf G qh0 q_snapshot q_history q_program q_notice va H.size q v x3 k_103) ⟨hx, hb, hml, hown, hts⟩ gh_L_260 hds_L_hoursUntilUnlockedByDays hK hST hS hP hD hA [0, 1] [] rfl rfl rfl ⟨Nat.le_of_ble_eq_true rfl, Nat.le_of_ble_eq_true rfl⟩ ⟨(by show _ ≤ 1057; omega), (by show _ ≤ 6342; omega)⟩ rfl hl.1 rfl (Nat.le_of_ble_eq_true rfl) dL_isWell_300 (fun uu_105 H locs huu hP hD hS => ?_)
                    have euu_105 := huu
                    have hP : va_P G.1 vwCl (fl [[(qh0, .inr (11, [.ref (va 0), .ref q_snapshot, .int q.1, .ref q_history, .ref q_program, .ref q_notice, .int q.2.1, .int q.2.2]))], wSt G va v]) H := hP
                    have hD : va_D A (fl [[(qh0, .inr (11, [.ref (va 0), .ref q_snapshot, .int q.1, .ref q_history, .ref q_program, .ref q_notice, .int q.2.1, .int q.2.2]))], wSt G va v]) := hD
                    refine W.eq (g2 := F0 m 303 ls [.int uu_105, .int uu_92]) rfl ?_
                    have hI : (lp_L_isWell_199 q v r_5 r_82 9 (0 : Int32)) = (if uu_92 = uu_105 then (if uu_92 = (0 : Int32) then (if (1 : Int32) = (f_X9_isUnlocked q v x3).2 then (if (f_X9_hasException q v x3 (f_X9_day q v)).2 = (0 : Int32) then (if (f_X9_isUnlocked q v x3).2 = (0 : Int32) then (lp_L_isWell_199 q v r_5 r_82 n (x3 + 1)) else x3) else (lp_L_isWell_199 q v r_5 r_82 n (x3 + 1))) else x3) else (if (0 : Int32) = (f_X9_isUnlocked q v x3).2 then (if (f_X9_hasException q v x3 (f_X9_day q v)).2 = (0 : Int32) then (if (f_X9_isUnlocked q v x3).2 = (0 : Int32) then (lp_L_isWell_199 q v r_5 r_82 n (x3 + 1)) else x3) else (lp_L_isWell_199 q v r_5 r_82 n (x3 + 1))) else x3)) else x3) := by subst euu_105; exact hI
                    have hok : (if uu_92 = uu_105 then (if uu_92 = (0 : Int32) then ((f_X9_isUnlocked q v x3).1 = "" ∧ (if (1 : Int32) = (f_X9_isUnlocked q v x3).2 then ((f_X9_hasException q v x3 (f_X9_day q v)).1 = "" ∧ (if (f_X9_hasException q v x3 (f_X9_day q v)).2 = (0 : Int32) then ((f_X9_isUnlocked q v x3).1 = "" ∧ (if (f_X9_isUnlocked q v x3).2 = (0 : Int32) then (okl_lp_L_isWell_199 q v r_5 r_82 n (x3 + 1)) else False)) else (okl_lp_L_isWell_199 q v r_5 r_82 n (x3 + 1)))) else False)) else ((f_X9_isUnlocked q v x3).1 = "" ∧ (if (0 : Int32) = (f_X9_isUnlocked q v x3).2 then ((f_X9_hasException q v x3 (f_X9_day q v)).1 = "" ∧ (if (f_X9_hasException q v x3 (f_X9_day q v)).2 = (0 : Int32) then ((f_X9_isUnlocked q v x3).1 = "" ∧ (if (f_X9_isUnlocked q v x3).2 = (0 : Int32) then (okl_lp_L_isWell_199 q v r_5 r_82 n (x3 + 1)) else False)) else (okl_lp_L_isWell_199 q v r_5 r_82 n (x3 + 1)))) else False))) else False) := hok _ euu_105
                    refine lv_icmp_ne (tgt := 366) hx hb dL_isWell_303 (by decide) (fun c_106 => ?_) (fun c_106 => ?_)
                    · have hI := hI.trans (if_neg c_106)
                      have hok := Eq.mp (if_neg c_106) hok
                      exact hok.elim
                    · have hI := hI.trans (if_pos c_106)
                      have hok := Eq.mp (if_pos c_106) hok
                      refine lv_iload hx hb dL_isWell_306 (lv_at hl 1 rfl) ?_
                      refine lv_if_ne (tgt := 315) hx hb dL_isWell_308 (by decide) (fun c_107 => ?_) (fun c_107 => ?_)
                      · have hI := hI.trans (if_neg c_107)
                        have hok := Eq.mp (if_neg c_107) hok
                        refine lv_iconst (v := (0 : Int32)) hx hb dL_isWell_315 (by decide) ?_
                        refine lv_aload_n hx hb dL_isWell_316 rfl (lv_at hl 6 rfl) ?_
                        refine lv_iload_n hx hb dL_isWell_317 rfl (lv_at hl 3 rfl) ?_
                        have h_109 := hok.1
                        have hok := hok.2
                        refine xr_V (own := RL) (v := (some (.int ((f_X9_isUnlocked q v x3).2)))) (st1 := [.int ((f_X9_isUnlocked q v x3).2), .int (0 : Int32)]) (As := [.int x3]) (rest := [.int (0 : Int32)]) (c_X9_isUnlockedS l hlf G qh0 q_snapshot q_history q_program q_notice va q v x3) ⟨hx, hb, hml, hown, hts⟩ g_L_220 hdv_X9_isUnlocked hK hST hS hP [0, 1, 2, 3, 4, 5, 6, 7, 8, 9, 10, 11, 12, 13, 14, 15, 16, 17, 18, 19, 20] rfl (k0 := 0) rfl rfl rfl ⟨Nat.le_of_ble_eq_true rfl, Nat.le_of_ble_eq_true rfl⟩ ⟨(by show _ ≤ 1057; omega), (by show _ ≤ 6342; omega)⟩ rfl hl.1 rfl (Nat.le_of_ble_eq_true rfl) dL_isWell_318 rfl (fun E ce q9 H hE h1 h2 h3 h4 h5 => absurd (hE.1.trans h_109) hE.2) (fun b_108 => ?_)
                        have hP := hP
                        have b_108 := b_108.2
                        refine lv_icmp_ne (tgt := 366) hx hb dL_isWell_321 (by decide) (fun c_110 => ?_) (fun c_110 => ?_)
                        · have hI := hI.trans (if_neg c_110)
                          have hok := Eq.mp (if_neg c_110) hok
                          exact hok.elim
                        · have hI := hI.trans (if_pos c_110)
                          have hok := Eq.mp (if_pos c_110) hok
                          refine lv_aload_n hx hb dL_isWell_324 rfl (lv_at hl 6 rfl) ?_
                          refine lv_iload_n hx hb dL_isWell_325 rfl (lv_at hl 3 rfl) ?_
                          refine lv_aload_n hx hb dL_isWell_326 rfl (lv_at hl 6 rfl) ?_
                          refine r_V (own := RL) (v := (some (.int (f_X9_day q v)))) (st1 := [.int (f_X9_day q v), .int x3, .ref qh0]) (As := []) (rest := [.int x3, .ref qh0]) (c_X9_dayS l G qh0 q_snapshot q_history q_program q_notice va q v) ⟨hx, hb, hml, hown, hts⟩ g_L_149 hdv_X9_day hK hST hS hP [0, 1, 2, 3, 4, 5, 6, 7, 8, 9, 10, 11, 12, 13, 14, 15, 16, 17, 18, 19, 20] rfl (k0 := 0) rfl rfl rfl ⟨Nat.le_of_ble_eq_true rfl, Nat.le_of_ble_eq_true rfl⟩ ⟨(by show _ ≤ 1057; omega), (by show _ ≤ 6342; omega)⟩ rfl hl.1 rfl (Nat.le_of_ble_eq_true rfl) dL_isWell_327 rfl (fun b_111 => ?_)
                          have h_113 := hok.1
                          have hok := hok.2
                          refine xr_V (own := RL) (v := (some (.int ((f_X9_hasException q v x3 (f_X9_day q v)).2)))) (st1 := [.int ((f_X9_hasException q v x3 (f_X9_day q v)).2)]) (As := [.int x3, .int (f_X9_day q v)]) (rest := []) (c_X9_hasExceptionS l hlf G qh0 q_snapshot q_history q_program q_notice va q v x3 (f_X9_day q v)) ⟨hx, hb, hml, hown, hts⟩ g_L_262 hdv_X9_hasException hK hST hS hP [0, 1, 2, 3, 4, 5, 6, 7, 8, 9, 10, 11, 12, 13, 14, 15, 16, 17, 18, 19, 20] rfl (k0 := 0) rfl rfl rfl ⟨Nat.le_of_ble_eq_true rfl, Nat.le_of_ble_eq_true rfl⟩ ⟨(by show _ ≤ 1057; omega), (by show _ ≤ 6342; omega)⟩ rfl hl.1 rfl (Nat.le_of_ble_eq_true rfl) dL_isWell_330 rfl (fun E ce q9 H hE h1 h2 h3 h4 h5 => absurd (hE.1.trans h_113) hE.2) (fun b_112 => ?_)
                          have hP := hP
                          have b_112 := b_112.2
                          refine lv_if_ne (tgt := 368) hx hb dL_isWell_333 (by decide) (fun c_114 => ?_) (fun c_114 => ?_)
                          · have hI := hI.trans (if_neg c_114)
                            have hok := Eq.mp (if_neg c_114) hok
                            refine lv_iinc (v := (x3 + 1)) (lv' := [(3, .int (x3 + 1)), (6, .int (0 : Int32)), (5, .int uu_92), (4, .int r_89.2), (2, .int r_5.2), (1, .int r_82.2), (0, .ref qh0)]) hx hb dL_isWell_368 hl (k := 3) rfl rfl (by decide) rfl (fun ls hl => ?_)
                            refine lv_goto (tgt := 199) hx hb dL_isWell_371 (by decide) ?_
                            exact ih (x3 + 1) _ _ _ _ ls (lv_sub hl [0, 4, 5, 6] rfl) hP hD hS (by omega) (by omega) hI hok
                          · have hI := hI.trans (if_pos c_114)
                            have hok := Eq.mp (if_pos c_114) hok
                            refine lv_aload_n hx hb dL_isWell_336 rfl (lv_at hl 6 rfl) ?_
                            refine lv_iload_n hx hb dL_isWell_337 rfl (lv_at hl 3 rfl) ?_
                            have h_116 := hok.1
                            have hok := hok.2
                            refine xr_V (own := RL) (v := (some (.int ((f_X9_isUnlocked q v x3).2)))) (st1 := [.int ((f_X9_isUnlocked q v x3).2)]) (As := [.int x3]) (rest := []) (c_X9_isUnlockedS l hlf G qh0 q_snapshot q_history q_program q_notice va q v x3) ⟨hx, hb, hml, hown, hts⟩ g_L_220 hdv_X9_isUnlocked hK hST hS hP [0, 1, 2, 3, 4, 5, 6, 7, 8, 9, 10, 11, 12, 13, 14, 15, 16, 17, 18, 19, 20] rfl (k0 := 0) rfl rfl rfl ⟨Nat.le_of_ble_eq_true rfl, Nat.le_of_ble_eq_true rfl⟩ ⟨(by show _ ≤ 1057; omega), (by show _ ≤ 6342; omega)⟩ rfl hl.1 rfl (Nat.le_of_ble_eq_true rfl) dL_isWell_338 rfl (fun E ce q9 H hE h1 h2 h3 h4 h5 => absurd (hE.1.trans h_116) hE.2) (fun b_115 => ?_)
                            have hP := hP
                            have b_115 := b_115.2
                            refine lv_iload hx hb dL_isWell_341 (lv_at hl 0 rfl) ?_
                            refine lv_if_eq (tgt := 362) hx hb dL_isWell_343 (by decide) (fun c_117 => ?_) (fun c_117 => ?_)
                            · refine lv_iconst (v := (0 : Int32)) hx hb dL_isWell_362 (by decide) ?_
                              refine lv_icmp_eq (tgt := 368) hx hb dL_isWell_363 (by decide) (fun c_118 => ?_) (fun c_118 => ?_)
                              · have hI := hI.trans (if_pos c_118)
                                have hok := Eq.mp (if_pos c_118) hok
                                refine lv_iinc (v := (x3 + 1)) (lv' := [(3, .int (x3 + 1)), (6, .int (0 : Int32)), (5, .int uu_92), (4, .int r_89.2), (2, .int r_5.2), (1, .int r_82.2), (0, .ref qh0)]) hx hb dL_isWell_368 hl (k := 3) rfl rfl (by decide) rfl (fun ls hl => ?_)
                                refine lv_goto (tgt := 199) hx hb dL_isWell_371 (by decide) ?_
                                exact ih (x3 + 1) _ _ _ _ ls (lv_sub hl [0, 4, 5, 6] rfl) hP hD hS (by omega) (by omega) hI hok
                              · have hI := hI.trans (if_neg c_118)
                                have hok := Eq.mp (if_neg c_118) hok
                                exact hok.elim
                            · exact absurd c_117 (by decide)
                      · have hI := hI.trans (if_pos c_107)
                        have hok := Eq.mp (if_pos c_107) hok
                        refine lv_iconst (v := (1 : Int32)) hx hb dL_isWell_311 (by decide) ?_
                        refine lv_goto (tgt := 316) hx hb dL_isWell_312 (by decide) ?_
                        refine lv_aload_n hx hb dL_isWell_316 rfl (lv_at hl 6 rfl) ?_
                        refine lv_iload_n hx hb dL_isWell_317 rfl (lv_at hl 3 rfl) ?_
                        have h_120 := hok.1
                        have hok := hok.2
                        refine xr_V (own := RL) (v := (some (.int ((f_X9_isUnlocked q v x3).2)))) (st1 := [.int ((f_X9_isUnlocked q v x3).2), .int (1 : Int32)]) (As := [.int x3]) (rest := [.int (1 : Int32)]) (c_X9_isUnlockedS l hlf G qh0 q_snapshot q_history q_program q_notice va q v x3) ⟨hx, hb, hml, hown, hts⟩ g_L_220 hdv_X9_isUnlocked hK hST hS hP [0, 1, 2, 3, 4, 5, 6, 7, 8, 9, 10, 11, 12, 13, 14, 15, 16, 17, 18, 19, 20] rfl (k0 := 0) rfl rfl rfl ⟨Nat.le_of_ble_eq_true rfl, Nat.le_of_ble_eq_true rfl⟩ ⟨(by show _ ≤ 1057; omega), (by show _ ≤ 6342; omega)⟩ rfl hl.1 rfl (Nat.le_of_ble_eq_true rfl) dL_isWell_318 rfl (fun E ce q9 H hE h1 h2 h3 h4 h5 => absurd (hE.1.trans h_120) hE.2) (fun b_119 => ?_)
                        have hP := hP
                        have b_119 := b_119.2
                        refine lv_icmp_ne (tgt := 366) hx hb dL_isWell_321 (by decide) (fun c_121 => ?_) (fun c_121 => ?_)
                        · have hI := hI.trans (if_neg c_121)
                          have hok := Eq.mp (if_neg c_121) hok
                          exact hok.elim
                        · have hI := hI.trans (if_pos c_121)
                          have hok := Eq.mp (if_pos c_121) hok
                          refine lv_aload_n hx hb dL_isWell_324 rfl (lv_at hl 6 rfl) ?_
                          refine lv_iload_n hx hb dL_isWell_325 rfl (lv_at hl 3 rfl) ?_
                          refine lv_aload_n hx hb dL_isWell_326 rfl (lv_at hl 6 rfl) ?_
                          refine r_V (own := RL) (v := (some (.int (f_X9_day q v)))) (st1 := [.int (f_X9_day q v), .int x3, .ref qh0]) (As := []) (rest := [.int x3, .ref qh0]) (c_X9_dayS l G qh0 q_snapshot q_history q_program q_notice va q v) ⟨hx, hb, hml, hown, hts⟩ g_L_149 hdv_X9_day hK hST hS hP [0, 1, 2, 3, 4, 5, 6, 7, 8, 9, 10, 11, 12, 13, 14, 15, 16, 17, 18, 19, 20] rfl (k0 := 0) rfl rfl rfl ⟨Nat.le_of_ble_eq_true rfl, Nat.le_of_ble_eq_true rfl⟩ ⟨(by show _ ≤ 1057; omega), (by show _ ≤ 6342; omega)⟩ rfl hl.1 rfl (Nat.le_of_ble_eq_true rfl) dL_isWell_327 rfl (fun b_122 => ?_)
                          have h_124 := hok.1
                          have hok := hok.2
                          refine xr_V (own := RL) (v := (some (.int ((f_X9_hasException q v x3 (f_X9_day q v)).2)))) (st1 := [.int ((f_X9_hasException q v x3 (f_X9_day q v)).2)]) (As := [.int x3, .int (f_X9_day q v)]) (rest := []) (c_X9_hasExceptionS l hlf G qh0 q_snapshot q_history q_program q_notice va q v x3 (f_X9_day q v)) ⟨hx, hb, hml, hown, hts⟩ g_L_262 hdv_X9_hasException hK hST hS hP [0, 1, 2, 3, 4, 5, 6, 7, 8, 9, 10, 11, 12, 13, 14, 15, 16, 17, 18, 19, 20] rfl (k0 := 0) rfl rfl rfl ⟨Nat.le_of_ble_eq_true rfl, Nat.le_of_ble_eq_true rfl⟩ ⟨(by show _ ≤ 1057; omega), (by show _ ≤ 6342; omega)⟩ rfl hl.1 rfl (Nat.le_of_ble_eq_true rfl) dL_isWell_330 rfl (fun E ce q9 H hE h1 h2 h3 h4 h5 => absurd (hE.1.trans h_124) hE.2) (fun b_123 => ?_)
                          have hP := hP
                          have b_123 := b_123.2
                          refine lv_if_ne (tgt := 368) hx hb dL_isWell_333 (by decide) (fun c_125 => ?_) (fun c_125 => ?_)
                          · have hI := hI.trans (if_neg c_125)
                            have hok := Eq.mp (if_neg c_125) hok
                            refine lv_iinc (v := (x3 + 1)) (lv' := [(3, .int (x3 + 1)), (6, .int (0 : Int32)), (5, .int uu_92), (4, .int r_89.2), (2, .int r_5.2), (1, .int r_82.2), (0, .ref qh0)]) hx hb dL_isWell_368 hl (k := 3) rfl rfl (by decide) rfl (fun ls hl => ?_)
                            refine lv_goto (tgt := 199) hx hb dL_isWell_371 (by decide) ?_
                            exact ih (x3 + 1) _ _ _ _ ls (lv_sub hl [0, 4, 5, 6] rfl) hP hD hS (by omega) (by omega) hI hok
                          · have hI := hI.trans (if_pos c_125)
                            have hok := Eq.mp (if_pos c_125) hok
                            refine lv_aload_n hx hb dL_isWell_336 rfl (lv_at hl 6 rfl) ?_
                            refine lv_iload_n hx hb dL_isWell_337 rfl (lv_at hl 3 rfl) ?_
                            have h_127 := hok.1
                            have hok := hok.2
                            refine xr_V (own := RL) (v := (some (.int ((f_X9_isUnlocked q v x3).2)))) (st1 := [.int ((f_X9_isUnlocked q v x3).2)]) (As := [.int x3]) (rest := []) (c_X9_isUnlockedS l hlf G qh0 q_snapshot q_history q_program q_notice va q v x3) ⟨hx, hb, hml, hown, hts⟩ g_L_220 hdv_X9_isUnlocked hK hST hS hP [0, 1, 2, 3, 4, 5, 6, 7, 8, 9, 10, 11, 12, 13, 14, 15, 16, 17, 18, 19, 20] rfl (k0 := 0) rfl rfl rfl ⟨Nat.le_of_ble_eq_true rfl, Nat.le_of_ble_eq_true rfl⟩ ⟨(by show _ ≤ 1057; omega), (by show _ ≤ 6342; omega)⟩ rfl hl.1 rfl (Nat.le_of_ble_eq_true rfl) dL_isWell_338 rfl (fun E ce q9 H hE h1 h2 h3 h4 h5 => absurd (hE.1.trans h_127) hE.2) (fun b_126 => ?_)
                            have hP := hP
                            have b_126 := b_126.2
                            refine lv_iload hx hb dL_isWell_341 (lv_at hl 0 rfl) ?_
                            refine lv_if_eq (tgt := 362) hx hb dL_isWell_343 (by decide) (fun c_128 => ?_) (fun c_128 => ?_)
                            · refine lv_iconst (v := (0 : Int32)) hx hb dL_isWell_362 (by decide) ?_
                              refine lv_icmp_eq (tgt := 368) hx hb dL_isWell_363 (by decide) (fun c_129 => ?_) (fun c_129 => ?_)
                              · have hI := hI.trans (if_pos c_129)
                                have hok := Eq.mp (if_pos c_129) hok
                                refine lv_iinc (v := (x3 + 1)) (lv' := [(3, .int (x3 + 1)), (6, .int (0 : Int32)), (5, .int uu_92), (4, .int r_89.2), (2, .int r_5.2), (1, .int r_82.2), (0, .ref qh0)]) hx hb dL_isWell_368 hl (k := 3) rfl rfl (by decide) rfl (fun ls hl => ?_)
                                refine lv_goto (tgt := 199) hx hb dL_isWell_371 (by decide) ?_
                                exact ih (x3 + 1) _ _ _ _ ls (lv_sub hl [0, 4, 5, 6] rfl) hP hD hS (by omega) (by omega) hI hok
                              · have hI := hI.trans (if_neg c_129)
                                have hok := Eq.mp (if_neg c_129) hok
                                exact hok.elim
                            · exact absurd c_128 (by decide)
              · have hI := hI.trans (if_pos c_98)
                have hok := Eq.mp (if_pos c_98) hok
                refine lv_iconst (v := (1 : Int32)) hx hb dL_isWell_273 (by decide) ?_
                refine lv_goto (tgt := 278) hx hb dL_isWell_274 (by decide) ?_
                refine lv_istore (lv' := [(6, .int (1 : Int32)), (5, .int uu_92), (4, .int r_89.2), (3, .int x3), (2, .int r_5.2), (1, .int r_82.2), (0, .ref qh0)]) hx hb dL_isWell_278 hl (by decide) rfl (fun ls hl => ?_)
                refine lv_aload_n hx hb dL_isWell_280 rfl (lv_at hl 6 rfl) ?_
                refine lv_iload_n hx hb dL_isWell_281 rfl (lv_at hl 3 rfl) ?_
                have h_131 := hok.1
                have hok := hok.2
                refine xr_V (own := RL) (v := (some (.int ((f_X9_hourCount q v x3).2)))) (st1 := [.int ((f_X9_hourCount q v x3).2)]) (As := [.int x3]) (rest := []) (c_X9_hourCountS l hlf G qh0 q_snapshot q_history q_program q_notice va q v x3) ⟨hx, hb, hml, hown, hts⟩ g_L_217 hdv_X9_hourCount hK hST hS hP [0, 1, 2, 3, 4, 5, 6, 7, 8, 9, 10, 11, 12, 13, 14, 15, 16, 17, 18, 19, 20] rfl (k0 := 0) rfl rfl rfl ⟨Nat.le_of_ble_eq_true rfl, Nat.le_of_ble_eq_true rfl⟩ ⟨(by show _ ≤ 1057; omega), (by show _ ≤ 6342; omega)⟩ rfl hl.1 rfl (Nat.le_of_ble_eq_true rfl) dL_isWell_282 rfl (fun E ce q9 H hE h1 h2 h3 h4 h5 => absurd (hE.1.trans h_131) hE.2) (fun b_130 => ?_)
                have hP := hP
                have b_130 := b_130.2
                refine lv_iload hx hb dL_isWell_285 (lv_at hl 2 rfl) ?_
                refine lv_icmp_ne (tgt := 366) hx hb dL_isWell_287 (by decide) (fun c_132 => ?_) (fun c_132 => ?_)
                · have hI := hI.trans (if_neg c_132)
                  have hok := Eq.mp (if_neg c_132) hok
                  exact hok.elim
                · have hI := hI.trans (if_pos c_132)
                  have hok := Eq.mp (if_pos c_132) hok
                  refine lv_iload hx hb dL_isWell_290 (lv_at hl 2 rfl) ?_
                  refine lv_iconst (v := (1 : Int32)) hx hb dL_isWell_292 (by decide) ?_
                  refine lv_icmp_lt (tgt := 366) hx hb dL_isWell_293 (by decide) (fun c_133 => ?_) (fun c_133 => ?_)
                  · have hI := hI.trans (if_pos c_133)
                    have hok := Eq.mp (if_pos c_133) hok
                    exact hok.elim
                  · have hI := hI.trans (if_neg c_133)
                    have hok := Eq.mp (if_neg c_133) hok
                    refine lv_iload hx hb dL_isWell_296 (lv_at hl 1 rfl) ?_
                    refine lv_aload_n hx hb dL_isWell_298 rfl (lv_at hl 6 rfl) ?_
                    refine lv_iload_n hx hb dL_isWell_299 rfl (lv_at hl 3 rfl) ?_
                    have k_134 := hok.1
                    have hok := hok.2
                    refine w_SH (own := RL) (cs := [[(qh0, .inr (11, [.ref (va 0), .ref q_snapshot, .int q.1, .ref q_history, .ref q_program, .ref q_notice, .int q.2.1, .int q.2.2]))], wSt G va v]) (rs := []) (As := [.ref qh0, .int x3]) (rest := [.int uu_92]) (c_L_hoursUntilUnlockedByDays l hlf G qh0 q_snapshot q_history q_program q_notice va H.size q v x3 k_134) ⟨hx, hb, hml, hown, hts⟩ gh_L_260 hds_L_hoursUntilUnlockedByDays hK hST hS hP hD hA [0, 1] [] rfl rfl rfl ⟨Nat.le_of_ble_eq_true rfl, Nat.le_of_ble_eq_true rfl⟩ ⟨(by show _ ≤ 1057; omega), (by show _ ≤ 6342; omega)⟩ rfl hl.1 rfl (Nat.le_of_ble_eq_true rfl) dL_isWell_300 (fun uu_136 H locs huu hP hD hS => ?_)
                    have euu_136 := huu
                    have hP : va_P G.1 vwCl (fl [[(qh0, .inr (11, [.ref (va 0), .ref q_snapshot, .int q.1, .ref q_history, .ref q_program, .ref q_notice, .int q.2.1, .int q.2.2]))], wSt G va v]) H := hP
                    have hD : va_D A (fl [[(qh0, .inr (11, [.ref (va 0), .ref q_snapshot, .int q.1, .ref q_history, .ref q_program, .ref q_notice, .int q.2.1, .int q.2.2]))], wSt G va v]) := hD
                    refine W.eq (g2 := F0 m 303 ls [.int uu_136, .int uu_92]) rfl ?_
                    have hI : (lp_L_isWell_199 q v r_5 r_82 9 (0 : Int32)) = (if uu_92 = uu_136 then (if uu_92 = (0 : Int32) then (if (1 : Int32) = (f_X9_isUnlocked q v x3).2 then (if (f_X9_hasException q v x3 (f_X9_day q v)).2 = (0 : Int32) then (if (f_X9_isHourOf q v x3 (f_X9_hour q v)).2 = (0 : Int32) then (if (f_X9_isUnlocked q v x3).2 = (0 : Int32) then (lp_L_isWell_199 q v r_5 r_82 n (x3 + 1)) else x3) else (if (f_X9_isUnlocked q v x3).2 = (1 : Int32) then (lp_L_isWell_199 q v r_5 r_82 n (x3 + 1)) else x3)) else (lp_L_isWell_199 q v r_5 r_82 n (x3 + 1))) else x3) else (if (0 : Int32) = (f_X9_isUnlocked q v x3).2 then (if (f_X9_hasException q v x3 (f_X9_day q v)).2 = (0 : Int32) then (if (f_X9_isHourOf q v x3 (f_X9_hour q v)).2 = (0 : Int32) then (if (f_X9_isUnlocked q v x3).2 = (0 : Int32) then (lp_L_isWell_199 q v r_5 r_82 n (x3 + 1)) else x3) else (if (f_X9_isUnlocked q v x3).2 = (1 : Int32) then (lp_L_isWell_199 q v r_5 r_82 n (x3 + 1)) else x3)) else (lp_L_isWell_199 q v r_5 r_82 n (x3 + 1))) else x3)) else x3) := by subst euu_136; exact hI
                    have hok : (if uu_92 = uu_136 then (if uu_92 = (0 : Int32) then ((f_X9_isUnlocked q v x3).1 = "" ∧ (if (1 : Int32) = (f_X9_isUnlocked q v x3).2 then ((f_X9_hasException q v x3 (f_X9_day q v)).1 = "" ∧ (if (f_X9_hasException q v x3 (f_X9_day q v)).2 = (0 : Int32) then ((f_X9_isUnlocked q v x3).1 = "" ∧ ((f_X9_isHourOf q v x3 (f_X9_hour q v)).1 = "" ∧ (if (f_X9_isHourOf q v x3 (f_X9_hour q v)).2 = (0 : Int32) then (if (f_X9_isUnlocked q v x3).2 = (0 : Int32) then (okl_lp_L_isWell_199 q v r_5 r_82 n (x3 + 1)) else False) else (if (f_X9_isUnlocked q v x3).2 = (1 : Int32) then (okl_lp_L_isWell_199 q v r_5 r_82 n (x3 + 1)) else False)))) else (okl_lp_L_isWell_199 q v r_5 r_82 n (x3 + 1)))) else False)) else ((f_X9_isUnlocked q v x3).1 = "" ∧ (if (0 : Int32) = (f_X9_isUnlocked q v x3).2 then ((f_X9_hasException q v x3 (f_X9_day q v)).1 = "" ∧ (if (f_X9_hasException q v x3 (f_X9_day q v)).2 = (0 : Int32) then ((f_X9_isUnlocked q v x3).1 = "" ∧ ((f_X9_isHourOf q v x3 (f_X9_hour q v)).1 = "" ∧ (if (f_X9_isHourOf q v x3 (f_X9_hour q v)).2 = (0 : Int32) then (if (f_X9_isUnlocked q v x3).2 = (0 : Int32) then (okl_lp_L_isWell_199 q v r_5 r_82 n (x3 + 1)) else False) else (if (f_X9_isUnlocked q v x3).2 = (1 : Int32) then (okl_lp_L_isWell_199 q v r_5 r_82 n (x3 + 1)) else False)))) else (okl_lp_L_isWell_199 q v r_5 r_82 n (x3 + 1)))) else False))) else False) := hok _ euu_136
                    refine lv_icmp_ne (tgt := 366) hx hb dL_isWell_303 (by decide) (fun c_137 => ?_) (fun c_137 => ?_)
                    · have hI := hI.trans (if_neg c_137)
                      have hok := Eq.mp (if_neg c_137) hok
                      exact hok.elim
                    · have hI := hI.trans (if_pos c_137)
                      have hok := Eq.mp (if_pos c_137) hok
                      refine lv_iload hx hb dL_isWell_306 (lv_at hl 1 rfl) ?_
                      refine lv_if_ne (tgt := 315) hx hb dL_isWell_308 (by decide) (fun c_138 => ?_) (fun c_138 => ?_)
                      · have hI := hI.trans (if_neg c_138)
                        have hok := Eq.mp (if_neg c_138) hok
                        refine lv_iconst (v := (0 : Int32)) hx hb dL_isWell_315 (by decide) ?_
                        refine lv_aload_n hx hb dL_isWell_316 rfl (lv_at hl 6 rfl) ?_
                        refine lv_iload_n hx hb dL_isWell_317 rfl (lv_at hl 3 rfl) ?_
                        have h_140 := hok.1
                        have hok := hok.2
                        refine xr_V (own := RL) (v := (some (.int ((f_X9_isUnlocked q v x3).2)))) (st1 := [.int ((f_X9_isUnlocked q v x3).2), .int (0 : Int32)]) (As := [.int x3]) (rest := [.int (0 : Int32)]) (c_X9_isUnlockedS l hlf G qh0 q_snapshot q_history q_program q_notice va q v x3) ⟨hx, hb, hml, hown, hts⟩ g_L_220 hdv_X9_isUnlocked hK hST hS hP [0, 1, 2, 3, 4, 5, 6, 7, 8, 9, 10, 11, 12, 13, 14, 15, 16, 17, 18, 19, 20] rfl (k0 := 0) rfl rfl rfl ⟨Nat.le_of_ble_eq_true rfl, Nat.le_of_ble_eq_true rfl⟩ ⟨(by show _ ≤ 1057; omega), (by show _ ≤ 6342; omega)⟩ rfl hl.1 rfl (Nat.le_of_ble_eq_true rfl) dL_isWell_318 rfl (fun E ce q9 H hE h1 h2 h3 h4 h5 => absurd (hE.1.trans h_140) hE.2) (fun b_139 => ?_)
                        have hP := hP
                        have b_139 := b_139.2
                        refine lv_icmp_ne (tgt := 366) hx hb dL_isWell_321 (by decide) (fun c_141 => ?_) (fun c_141 => ?_)
                        · have hI := hI.trans (if_neg c_141)
                          have hok := Eq.mp (if_neg c_141) hok
                          exact hok.elim
                        · have hI := hI.trans (if_pos c_141)
                          have hok := Eq.mp (if_pos c_141) hok
                          refine lv_aload_n hx hb dL_isWell_324 rfl (lv_at hl 6 rfl) ?_
                          refine lv_iload_n hx hb dL_isWell_325 rfl (lv_at hl 3 rfl) ?_
                          refine lv_aload_n hx hb dL_isWell_326 rfl (lv_at hl 6 rfl) ?_
                          refine r_V (own := RL) (v := (some (.int (f_X9_day q v)))) (st1 := [.int (f_X9_day q v), .int x3, .ref qh0]) (As := []) (rest := [.int x3, .ref qh0]) (c_X9_dayS l G qh0 q_snapshot q_history q_program q_notice va q v) ⟨hx, hb, hml, hown, hts⟩ g_L_149 hdv_X9_day hK hST hS hP [0, 1, 2, 3, 4, 5, 6, 7, 8, 9, 10, 11, 12, 13, 14, 15, 16, 17, 18, 19, 20] rfl (k0 := 0) rfl rfl rfl ⟨Nat.le_of_ble_eq_true rfl, Nat.le_of_ble_eq_true rfl⟩ ⟨(by show _ ≤ 1057; omega), (by show _ ≤ 6342; omega)⟩ rfl hl.1 rfl (Nat.le_of_ble_eq_true rfl) dL_isWell_327 rfl (fun b_142 => ?_)
                          have h_144 := hok.1
                          have hok := hok.2
                          refine xr_V (own := RL) (v := (some (.int ((f_X9_hasException q v x3 (f_X9_day q v)).2)))) (st1 := [.int ((f_X9_hasException q v x3 (f_X9_day q v)).2)]) (As := [.int x3, .int (f_X9_day q v)]) (rest := []) (c_X9_hasExceptionS l hlf G qh0 q_snapshot q_history q_program q_notice va q v x3 (f_X9_day q v)) ⟨hx, hb, hml, hown, hts⟩ g_L_262 hdv_X9_hasException hK hST hS hP [0, 1, 2, 3, 4, 5, 6, 7, 8, 9, 10, 11, 12, 13, 14, 15, 16, 17, 18, 19, 20] rfl (k0 := 0) rfl rfl rfl ⟨Nat.le_of_ble_eq_true rfl, Nat.le_of_ble_eq_true rfl⟩ ⟨(by show _ ≤ 1057; omega), (by show _ ≤ 6342; omega)⟩ rfl hl.1 rfl (Nat.le_of_ble_eq_true rfl) dL_isWell_330 rfl (fun E ce q9 H hE h1 h2 h3 h4 h5 => absurd (hE.1.trans h_144) hE.2) (fun b_143 => ?_)
                          have hP := hP
                          have b_143 := b_143.2
                          refine lv_if_ne (tgt := 368) hx hb dL_isWell_333 (by decide) (fun c_145 => ?_) (fun c_145 => ?_)
                          · have hI := hI.trans (if_neg c_145)
                            have hok := Eq.mp (if_neg c_145) hok
                            refine lv_iinc (v := (x3 + 1)) (lv' := [(3, .int (x3 + 1)), (6, .int (1 : Int32)), (5, .int uu_92), (4, .int r_89.2), (2, .int r_5.2), (1, .int r_82.2), (0, .ref qh0)]) hx hb dL_isWell_368 hl (k := 3) rfl rfl (by decide) rfl (fun ls hl => ?_)
                            refine lv_goto (tgt := 199) hx hb dL_isWell_371 (by decide) ?_
                            exact ih (x3 + 1) _ _ _ _ ls (lv_sub hl [0, 4, 5, 6] rfl) hP hD hS (by omega) (by omega) hI hok
                          · have hI := hI.trans (if_pos c_145)
                            have hok := Eq.mp (if_pos c_145) hok
                            refine lv_aload_n hx hb dL_isWell_336 rfl (lv_at hl 6 rfl) ?_
                            refine lv_iload_n hx hb dL_isWell_337 rfl (lv_at hl 3 rfl) ?_
                            have h_147 := hok.1
                            have hok := hok.2
                            refine xr_V (own := RL) (v := (some (.int ((f_X9_isUnlocked q v x3).2)))) (st1 := [.int ((f_X9_isUnlocked q v x3).2)]) (As := [.int x3]) (rest := []) (c_X9_isUnlockedS l hlf G qh0 q_snapshot q_history q_program q_notice va q v x3) ⟨hx, hb, hml, hown, hts⟩ g_L_220 hdv_X9_isUnlocked hK hST hS hP [0, 1, 2, 3, 4, 5, 6, 7, 8, 9, 10, 11, 12, 13, 14, 15, 16, 17, 18, 19, 20] rfl (k0 := 0) rfl rfl rfl ⟨Nat.le_of_ble_eq_true rfl, Nat.le_of_ble_eq_true rfl⟩ ⟨(by show _ ≤ 1057; omega), (by show _ ≤ 6342; omega)⟩ rfl hl.1 rfl (Nat.le_of_ble_eq_true rfl) dL_isWell_338 rfl (fun E ce q9 H hE h1 h2 h3 h4 h5 => absurd (hE.1.trans h_147) hE.2) (fun b_146 => ?_)
                            have hP := hP
                            have b_146 := b_146.2
                            refine lv_iload hx hb dL_isWell_341 (lv_at hl 0 rfl) ?_
                            refine lv_if_eq (tgt := 362) hx hb dL_isWell_343 (by decide) (fun c_148 => ?_) (fun c_148 => ?_)
                            · exact absurd c_148 (by decide)
                            · refine lv_aload_n hx hb dL_isWell_346 rfl (lv_at hl 6 rfl) ?_
                              refine lv_iload_n hx hb dL_isWell_347 rfl (lv_at hl 3 rfl) ?_
                              refine lv_aload_n hx hb dL_isWell_348 rfl (lv_at hl 6 rfl) ?_
                              refine r_V (own := RL) (v := (some (.int (f_X9_hour q v)))) (st1 := [.int (f_X9_hour q v), .int x3, .ref qh0, .int ((f_X9_isUnlocked q v x3).2)]) (As := []) (rest := [.int x3, .ref qh0, .int ((f_X9_isUnlocked q v x3).2)]) (c_X9_hourS l G qh0 q_snapshot q_history q_program q_notice va q v) ⟨hx, hb, hml, hown, hts⟩ g_L_199 hdv_X9_hour hK hST hS hP [0, 1, 2, 3, 4, 5, 6, 7, 8, 9, 10, 11, 12, 13, 14, 15, 16, 17, 18, 19, 20] rfl (k0 := 0) rfl rfl rfl ⟨Nat.le_of_ble_eq_true rfl, Nat.le_of_ble_eq_true rfl⟩ ⟨(by show _ ≤ 1057; omega), (by show _ ≤ 6342; omega)⟩ rfl hl.1 rfl (Nat.le_of_ble_eq_true rfl) dL_isWell_349 rfl (fun b_149 => ?_)
                              have h_151 := hok.1
                              have hok := hok.2
                              refine xr_V (own := RL) (v := (some (.int ((f_X9_isHourOf q v x3 (f_X9_hour q v)).2)))) (st1 := [.int ((f_X9_isHourOf q v x3 (f_X9_hour q v)).2), .int ((f_X9_isUnlocked q v x3).2)]) (As := [.int x3, .int (f_X9_hour q v)]) (rest := [.int ((f_X9_isUnlocked q v x3).2)]) (c_X9_isHourOfS l hlf G qh0 q_snapshot q_history q_program q_notice va q v x3 (f_X9_hour q v)) ⟨hx, hb, hml, hown, hts⟩ g_L_255 hdv_X9_isHourOf hK hST hS hP [0, 1, 2, 3, 4, 5, 6, 7, 8, 9, 10, 11, 12, 13, 14, 15, 16, 17, 18, 19, 20] rfl (k0 := 0) rfl rfl rfl ⟨Nat.le_of_ble_eq_true rfl, Nat.le_of_ble_eq_true rfl⟩ ⟨(by show _ ≤ 1057; omega), (by show _ ≤ 6342; omega)⟩ rfl hl.1 rfl (Nat.le_of_ble_eq_true rfl) dL_isWell_352 rfl (fun E ce q9 H hE h1 h2 h3 h4 h5 => absurd (hE.1.trans h_151) hE.2) (fun b_150 => ?_)
                              have hP := hP
                              have b_150 := b_150.2
                              refine lv_if_eq (tgt := 362) hx hb dL_isWell_355 (by decide) (fun c_152 => ?_) (fun c_152 => ?_)
                              · have hI := hI.trans (if_pos c_152)
                                have hok := Eq.mp (if_pos c_152) hok
                                refine lv_iconst (v := (0 : Int32)) hx hb dL_isWell_362 (by decide) ?_
                                refine lv_icmp_eq (tgt := 368) hx hb dL_isWell_363 (by decide) (fun c_153 => ?_) (fun c_153 => ?_)
                                · have hI := hI.trans (if_pos c_153)
                                  have hok := Eq.mp (if_pos c_153) hok
                                  refine lv_iinc (v := (x3 + 1)) (lv' := [(3, .int (x3 + 1)), (6, .int (1 : Int32)), (5, .int uu_92), (4, .int r_89.2), (2, .int r_5.2), (1, .int r_82.2), (0, .ref qh0)]) hx hb dL_isWell_368 hl (k := 3) rfl rfl (by decide) rfl (fun ls hl => ?_)
                                  refine lv_goto (tgt := 199) hx hb dL_isWell_371 (by decide) ?_
                                  exact ih (x3 + 1) _ _ _ _ ls (lv_sub hl [0, 4, 5, 6] rfl) hP hD hS (by omega) (by omega) hI hok
                                · have hI := hI.trans (if_neg c_153)
                                  have hok := Eq.mp (if_neg c_153) hok
                                  exact hok.elim
                              · have hI := hI.trans (if_neg c_152)
                                have hok := Eq.mp (if_neg c_152) hok
                                refine lv_iconst (v := (1 : Int32)) hx hb dL_isWell_358 (by decide) ?_
                                refine lv_goto (tgt := 363) hx hb dL_isWell_359 (by decide) ?_
                                refine lv_icmp_eq (tgt := 368) hx hb dL_isWell_363 (by decide) (fun c_154 => ?_) (fun c_154 => ?_)
                                · have hI := hI.trans (if_pos c_154)
                                  have hok := Eq.mp (if_pos c_154) hok
                                  refine lv_iinc (v := (x3 + 1)) (lv' := [(3, .int (x3 + 1)), (6, .int (1 : Int32)), (5, .int uu_92), (4, .int r_89.2), (2, .int r_5.2), (1, .int r_82.2), (0, .ref qh0)]) hx hb dL_isWell_368 hl (k := 3) rfl rfl (by decide) rfl (fun ls hl => ?_)
                                  refine lv_goto (tgt := 199) hx hb dL_isWell_371 (by decide) ?_
                                  exact ih (x3 + 1) _ _ _ _ ls (lv_sub hl [0, 4, 5, 6] rfl) hP hD hS (by omega) (by omega) hI hok
                                · have hI := hI.trans (if_neg c_154)
                                  have hok := Eq.mp (if_neg c_154) hok
                                  exact hok.elim
                      · have hI := hI.trans (if_pos c_138)
                        have hok := Eq.mp (if_pos c_138) hok
                        refine lv_iconst (v := (1 : Int32)) hx hb dL_isWell_311 (by decide) ?_
                        refine lv_goto (tgt := 316) hx hb dL_isWell_312 (by decide) ?_
                        refine lv_aload_n hx hb dL_isWell_316 rfl (lv_at hl 6 rfl) ?_
                        refine lv_iload_n hx hb dL_isWell_317 rfl (lv_at hl 3 rfl) ?_
                        have h_156 := hok.1
                        have hok := hok.2
                        refine xr_V (own := RL) (v := (some (.int ((f_X9_isUnlocked q v x3).2)))) (st1 := [.int ((f_X9_isUnlocked q v x3).2), .int (1 : Int32)]) (As := [.int x3]) (rest := [.int (1 : Int32)]) (c_X9_isUnlockedS l hlf G qh0 q_snapshot q_history q_program q_notice va q v x3) ⟨hx, hb, hml, hown, hts⟩ g_L_220 hdv_X9_isUnlocked hK hST hS hP [0, 1, 2, 3, 4, 5, 6, 7, 8, 9, 10, 11, 12, 13, 14, 15, 16, 17, 18, 19, 20] rfl (k0 := 0) rfl rfl rfl ⟨Nat.le_of_ble_eq_true rfl, Nat.le_of_ble_eq_true rfl⟩ ⟨(by show _ ≤ 1057; omega), (by show _ ≤ 6342; omega)⟩ rfl hl.1 rfl (Nat.le_of_ble_eq_true rfl) dL_isWell_318 rfl (fun E ce q9 H hE h1 h2 h3 h4 h5 => absurd (hE.1.trans h_156) hE.2) (fun b_155 => ?_)
                        have hP := hP
                        have b_155 := b_155.2
                        refine lv_icmp_ne (tgt := 366) hx hb dL_isWell_321 (by decide) (fun c_157 => ?_) (fun c_157 => ?_)
                        · have hI := hI.trans (if_neg c_157)
                          have hok := Eq.mp (if_neg c_157) hok
                          exact hok.elim
                        · have hI := hI.trans (if_pos c_157)
                          have hok := Eq.mp (if_pos c_157) hok
                          refine lv_aload_n hx hb dL_isWell_324 rfl (lv_at hl 6 rfl) ?_
                          refine lv_iload_n hx hb dL_isWell_325 rfl (lv_at hl 3 rfl) ?_
                          refine lv_aload_n hx hb dL_isWell_326 rfl (lv_at hl 6 rfl) ?_
                          refine r_V (own := RL) (v := (some (.int (f_X9_day q v)))) (st1 := [.int (f_X9_day q v), .int x3, .ref qh0]) (As := []) (rest := [.int x3, .ref qh0]) (c_X9_dayS l G qh0 q_snapshot q_history q_program q_notice va q v) ⟨hx, hb, hml, hown, hts⟩ g_L_149 hdv_X9_day hK hST hS hP [0, 1, 2, 3, 4, 5, 6, 7, 8, 9, 10, 11, 12, 13, 14, 15, 16, 17, 18, 19, 20] rfl (k0 := 0) rfl rfl rfl ⟨Nat.le_of_ble_eq_true rfl, Nat.le_of_ble_eq_true rfl⟩ ⟨(by show _ ≤ 1057; omega), (by show _ ≤ 6342; omega)⟩ rfl hl.1 rfl (Nat.le_of_ble_eq_true rfl) dL_isWell_327 rfl (fun b_158 => ?_)
                          have h_160 := hok.1
                          have hok := hok.2
                          refine xr_V (own := RL) (v := (some (.int ((f_X9_hasException q v x3 (f_X9_day q v)).2)))) (st1 := [.int ((f_X9_hasException q v x3 (f_X9_day q v)).2)]) (As := [.int x3, .int (f_X9_day q v)]) (rest := []) (c_X9_hasExceptionS l hlf G qh0 q_snapshot q_history q_program q_notice va q v x3 (f_X9_day q v)) ⟨hx, hb, hml, hown, hts⟩ g_L_262 hdv_X9_hasException hK hST hS hP [0, 1, 2, 3, 4, 5, 6, 7, 8, 9, 10, 11, 12, 13, 14, 15, 16, 17, 18, 19, 20] rfl (k0 := 0) rfl rfl rfl ⟨Nat.le_of_ble_eq_true rfl, Nat.le_of_ble_eq_true rfl⟩ ⟨(by show _ ≤ 1057; omega), (by show _ ≤ 6342; omega)⟩ rfl hl.1 rfl (Nat.le_of_ble_eq_true rfl) dL_isWell_330 rfl (fun E ce q9 H hE h1 h2 h3 h4 h5 => absurd (hE.1.trans h_160) hE.2) (fun b_159 => ?_)
                          have hP := hP
                          have b_159 := b_159.2
                          refine lv_if_ne (tgt := 368) hx hb dL_isWell_333 (by decide) (fun c_161 => ?_) (fun c_161 => ?_)
                          · have hI := hI.trans (if_neg c_161)
                            have hok := Eq.mp (if_neg c_161) hok
                            refine lv_iinc (v := (x3 + 1)) (lv' := [(3, .int (x3 + 1)), (6, .int (1 : Int32)), (5, .int uu_92), (4, .int r_89.2), (2, .int r_5.2), (1, .int r_82.2), (0, .ref qh0)]) hx hb dL_isWell_368 hl (k := 3) rfl rfl (by decide) rfl (fun ls hl => ?_)
                            refine lv_goto (tgt := 199) hx hb dL_isWell_371 (by decide) ?_
                            exact ih (x3 + 1) _ _ _ _ ls (lv_sub hl [0, 4, 5, 6] rfl) hP hD hS (by omega) (by omega) hI hok
                          · have hI := hI.trans (if_pos c_161)
                            have hok := Eq.mp (if_pos c_161) hok
                            refine lv_aload_n hx hb dL_isWell_336 rfl (lv_at hl 6 rfl) ?_
                            refine lv_iload_n hx hb dL_isWell_337 rfl (lv_at hl 3 rfl) ?_
                            have h_163 := hok.1
                            have hok := hok.2
                            refine xr_V (own := RL) (v := (some (.int ((f_X9_isUnlocked q v x3).2)))) (st1 := [.int ((f_X9_isUnlocked q v x3).2)]) (As := [.int x3]) (rest := []) (c_X9_isUnlockedS l hlf G qh0 q_snapshot q_history q_program q_notice va q v x3) ⟨hx, hb, hml, hown, hts⟩ g_L_220 hdv_X9_isUnlocked hK hST hS hP [0, 1, 2, 3, 4, 5, 6, 7, 8, 9, 10, 11, 12, 13, 14, 15, 16, 17, 18, 19, 20] rfl (k0 := 0) rfl rfl rfl ⟨Nat.le_of_ble_eq_true rfl, Nat.le_of_ble_eq_true rfl⟩ ⟨(by show _ ≤ 1057; omega), (by show _ ≤ 6342; omega)⟩ rfl hl.1 rfl (Nat.le_of_ble_eq_true rfl) dL_isWell_338 rfl (fun E ce q9 H hE h1 h2 h3 h4 h5 => absurd (hE.1.trans h_163) hE.2) (fun b_162 => ?_)
                            have hP := hP
                            have b_162 := b_162.2
                            refine lv_iload hx hb dL_isWell_341 (lv_at hl 0 rfl) ?_
                            refine lv_if_eq (tgt := 362) hx hb dL_isWell_343 (by decide) (fun c_164 => ?_) (fun c_164 => ?_)
                            · exact absurd c_164 (by decide)
                            · refine lv_aload_n hx hb dL_isWell_346 rfl (lv_at hl 6 rfl) ?_
                              refine lv_iload_n hx hb dL_isWell_347 rfl (lv_at hl 3 rfl) ?_
                              refine lv_aload_n hx hb dL_isWell_348 rfl (lv_at hl 6 rfl) ?_
                              refine r_V (own := RL) (v := (some (.int (f_X9_hour q v)))) (st1 := [.int (f_X9_hour q v), .int x3, .ref qh0, .int ((f_X9_isUnlocked q v x3).2)]) (As := []) (rest := [.int x3, .ref qh0, .int ((f_X9_isUnlocked q v x3).2)]) (c_X9_hourS l G qh0 q_snapshot q_history q_program q_notice va q v) ⟨hx, hb, hml, hown, hts⟩ g_L_199 hdv_X9_hour hK hST hS hP [0, 1, 2, 3, 4, 5, 6, 7, 8, 9, 10, 11, 12, 13, 14, 15, 16, 17, 18, 19, 20] rfl (k0 := 0) rfl rfl rfl ⟨Nat.le_of_ble_eq_true rfl, Nat.le_of_ble_eq_true rfl⟩ ⟨(by show _ ≤ 1057; omega), (by show _ ≤ 6342; omega)⟩ rfl hl.1 rfl (Nat.le_of_ble_eq_true rfl) dL_isWell_349 rfl (fun b_165 => ?_)
                              have h_167 := hok.1
                              have hok := hok.2
                              refine xr_V (own := RL) (v := (some (.int ((f_X9_isHourOf q v x3 (f_X9_hour q v)).2)))) (st1 := [.int ((f_X9_isHourOf q v x3 (f_X9_hour q v)).2), .int ((f_X9_isUnlocked q v x3).2)]) (As := [.int x3, .int (f_X9_hour q v)]) (rest := [.int ((f_X9_isUnlocked q v x3).2)]) (c_X9_isHourOfS l hlf G qh0 q_snapshot q_history q_program q_notice va q v x3 (f_X9_hour q v)) ⟨hx, hb, hml, hown, hts⟩ g_L_255 hdv_X9_isHourOf hK hST hS hP [0, 1, 2, 3, 4, 5, 6, 7, 8, 9, 10, 11, 12, 13, 14, 15, 16, 17, 18, 19, 20] rfl (k0 := 0) rfl rfl rfl ⟨Nat.le_of_ble_eq_true rfl, Nat.le_of_ble_eq_true rfl⟩ ⟨(by show _ ≤ 1057; omega), (by show _ ≤ 6342; omega)⟩ rfl hl.1 rfl (Nat.le_of_ble_eq_true rfl) dL_isWell_352 rfl (fun E ce q9 H hE h1 h2 h3 h4 h5 => absurd (hE.1.trans h_167) hE.2) (fun b_166 => ?_)
                              have hP := hP
                              have b_166 := b_166.2
                              refine lv_if_eq (tgt := 362) hx hb dL_isWell_355 (by decide) (fun c_168 => ?_) (fun c_168 => ?_)
                              · have hI := hI.trans (if_pos c_168)
                                have hok := Eq.mp (if_pos c_168) hok
                                refine lv_iconst (v := (0 : Int32)) hx hb dL_isWell_362 (by decide) ?_
                                refine lv_icmp_eq (tgt := 368) hx hb dL_isWell_363 (by decide) (fun c_169 => ?_) (fun c_169 => ?_)
                                · have hI := hI.trans (if_pos c_169)
                                  have hok := Eq.mp (if_pos c_169) hok
                                  refine lv_iinc (v := (x3 + 1)) (lv' := [(3, .int (x3 + 1)), (6, .int (1 : Int32)), (5, .int uu_92), (4, .int r_89.2), (2, .int r_5.2), (1, .int r_82.2), (0, .ref qh0)]) hx hb dL_isWell_368 hl (k := 3) rfl rfl (by decide) rfl (fun ls hl => ?_)
                                  refine lv_goto (tgt := 199) hx hb dL_isWell_371 (by decide) ?_
                                  exact ih (x3 + 1) _ _ _ _ ls (lv_sub hl [0, 4, 5, 6] rfl) hP hD hS (by omega) (by omega) hI hok
                                · have hI := hI.trans (if_neg c_169)
                                  have hok := Eq.mp (if_neg c_169) hok
                                  exact hok.elim
                              · have hI := hI.trans (if_neg c_168)
                                have hok := Eq.mp (if_neg c_168) hok
                                refine lv_iconst (v := (1 : Int32)) hx hb dL_isWell_358 (by decide) ?_
                                refine lv_goto (tgt := 363) hx hb dL_isWell_359 (by decide) ?_
                                refine lv_icmp_eq (tgt := 368) hx hb dL_isWell_363 (by decide) (fun c_170 => ?_) (fun c_170 => ?_)
                                · have hI := hI.trans (if_pos c_170)
                                  have hok := Eq.mp (if_pos c_170) hok
                                  refine lv_iinc (v := (x3 + 1)) (lv' := [(3, .int (x3 + 1)), (6, .int (1 : Int32)), (5, .int uu_92), (4, .int r_89.2), (2, .int r_5.2), (1, .int r_82.2), (0, .ref qh0)]) hx hb dL_isWell_368 hl (k := 3) rfl rfl (by decide) rfl (fun ls hl => ?_)
                                  refine lv_goto (tgt := 199) hx hb dL_isWell_371 (by decide) ?_
                                  exact ih (x3 + 1) _ _ _ _ ls (lv_sub hl [0, 4, 5, 6] rfl) hP hD hS (by omega) (by omega) hI hok
                                · have hI := hI.trans (if_neg c_170)
                                  have hok := Eq.mp (if_neg c_170) hok
                                  exact hok.elim
            have L213 : ∀ (n : Nat) (x5 : Int32) (x4 : Int32) (kc_213 ks_213 : Nat) (ls : Array Slot), lv_has ls 8 [(5, .int x5), (4, .int x4), (3, .int x3), (2, .int r_5.2), (1, .int r_82.2), (0, .ref qh0)] → kc_213 + n * 2 ≤ (kc_199 + 0) + 50 → ks_213 + n * 12 ≤ (ks_199 + 0) + 300 → (lp_L_isWell_213 q v r_5 r_82 x3 25 (0 : Int32) (0 : Int32)) = lp_L_isWell_213 q v r_5 r_82 x3 n x5 x4 → okl_lp_L_isWell_213 q v r_5 r_82 x3 n x5 x4 → W p l e (rmd 11 1057 6342) s m ([.ref qh0] : List Value).toArray below meth c H locs kc_213 ks_213 (MQ below (wQ (fun u : Int32 => some (.int u)) (fun u : Int32 => u = f_L_isWell q v ∧ narrow .boolean (.int (f_L_isWell q v)) = .int (f_L_isWell q v)) (fun u : Int32 => fl [[(qh0, .inr (11, [.ref (va 0), .ref q_snapshot, .int q.1, .ref q_history, .ref q_program, .ref q_notice, .int q.2.1, .int q.2.2]))], wSt G va v]) G.1 A) ([.ref qh0] : List Value).toArray s 1057 6342 A) (F0 m 213 ls []) := by
              intro n
              induction n with
              | zero => intro x5 x4 kc_213 ks_213 ls hl _ _ hI hok; exact hok.elim
              | succ n ih =>
                intro x5 x4 kc_213 ks_213 ls hl hkc_213 hks_213 hI hok
                have hI : (lp_L_isWell_213 q v r_5 r_82 x3 25 (0 : Int32) (0 : Int32)) = (if (24 : Int32) ≤ x5 then (x5, x4) else (if (f_X9_isHourOf q v x3 x5).2 = (0 : Int32) then (lp_L_isWell_213 q v r_5 r_82 x3 n (x5 + 1) (x4 + (0 : Int32))) else (lp_L_isWell_213 q v r_5 r_82 x3 n (x5 + 1) (x4 + (1 : Int32))))) := hI
                have hok : (if (24 : Int32) ≤ x5 then True else ((f_X9_isHourOf q v x3 x5).1 = "" ∧ (if (f_X9_isHourOf q v x3 x5).2 = (0 : Int32) then (okl_lp_L_isWell_213 q v r_5 r_82 x3 n (x5 + 1) (x4 + (0 : Int32))) else (okl_lp_L_isWell_213 q v r_5 r_82 x3 n (x5 + 1) (x4 + (1 : Int32)))))) := hok
                refine lv_iload hx hb dL_isWell_213 (lv_at hl 0 rfl) ?_
                refine lv_bipush (v := (24 : Int32)) hx hb dL_isWell_215 (by decide) ?_
                refine lv_icmp_ge (tgt := 246) hx hb dL_isWell_217 (by decide) (fun c_85 => ?_) (fun c_85 => ?_)
                · have hI := hI.trans (if_pos c_85)
                  have hok := Eq.mp (if_pos c_85) hok
                  refine W.widen (k := (kc_199 + 50)) (n := (ks_199 + 300)) (by omega) (by omega) ?_
                  exact K213 _ hI.symm ls (lv_sub hl [0, 1, 2, 3, 4, 5] rfl)
                · have hI := hI.trans (if_neg c_85)
                  have hok := Eq.mp (if_neg c_85) hok
                  refine lv_iload hx hb dL_isWell_220 (lv_at hl 1 rfl) ?_
                  refine lv_aload_n hx hb dL_isWell_222 rfl (lv_at hl 5 rfl) ?_
                  refine lv_iload_n hx hb dL_isWell_223 rfl (lv_at hl 2 rfl) ?_
                  refine lv_iload hx hb dL_isWell_224 (lv_at hl 0 rfl) ?_
                  have h_87 := hok.1
                  have hok := hok.2
                  refine xr_V (own := RL) (v := (some (.int ((f_X9_isHourOf q v x3 x5).2)))) (st1 := [.int ((f_X9_isHourOf q v x3 x5).2), .int x4]) (As := [.int x3, .int x5]) (rest := [.int x4]) (c_X9_isHourOfS l hlf G qh0 q_snapshot q_history q_program q_notice va q v x3 x5) ⟨hx, hb, hml, hown, hts⟩ g_L_255 hdv_X9_isHourOf hK hST hS hP [0, 1, 2, 3, 4, 5, 6, 7, 8, 9, 10, 11, 12, 13, 14, 15, 16, 17, 18, 19, 20] rfl (k0 := 0) rfl rfl rfl ⟨Nat.le_of_ble_eq_true rfl, Nat.le_of_ble_eq_true rfl⟩ ⟨(by show _ ≤ 1057; omega), (by show _ ≤ 6342; omega)⟩ rfl hl.1 rfl (Nat.le_of_ble_eq_true rfl) dL_isWell_226 rfl (fun E ce q9 H hE h1 h2 h3 h4 h5 => absurd (hE.1.trans h_87) hE.2) (fun b_86 => ?_)
                  have hP := hP
                  have b_86 := b_86.2
                  refine lv_if_eq (tgt := 236) hx hb dL_isWell_229 (by decide) (fun c_88 => ?_) (fun c_88 => ?_)
                  · have hI := hI.trans (if_pos c_88)
                    have hok := Eq.mp (if_pos c_88) hok
                    refine lv_iconst (v := (0 : Int32)) hx hb dL_isWell_236 (by decide) ?_
                    refine lv_iadd hx hb dL_isWell_237 ?_
                    refine lv_istore (lv' := [(4, .int (x4 + (0 : Int32))), (5, .int x5), (3, .int x3), (2, .int r_5.2), (1, .int r_82.2), (0, .ref qh0)]) hx hb dL_isWell_238 hl (by decide) rfl (fun ls hl => ?_)
                    refine lv_iinc (v := (x5 + 1)) (lv' := [(5, .int (x5 + 1)), (4, .int (x4 + (0 : Int32))), (3, .int x3), (2, .int r_5.2), (1, .int r_82.2), (0, .ref qh0)]) hx hb dL_isWell_240 hl (k := 1) rfl rfl (by decide) rfl (fun ls hl => ?_)
                    refine lv_goto (tgt := 213) hx hb dL_isWell_243 (by decide) ?_
                    exact ih (x5 + 1) (x4 + (0 : Int32)) _ _ ls (lv_sub hl [0, 1, 2, 3, 4, 5] rfl) (by omega) (by omega) hI hok
                  · have hI := hI.trans (if_neg c_88)
                    have hok := Eq.mp (if_neg c_88) hok
                    refine lv_iconst (v := (1 : Int32)) hx hb dL_isWell_232 (by decide) ?_
                    refine lv_goto (tgt := 237) hx hb dL_isWell_233 (by decide) ?_
                    refine lv_iadd hx hb dL_isWell_237 ?_
                    refine lv_istore (lv' := [(4, .int (x4 + (1 : Int32))), (5, .int x5), (3, .int x3), (2, .int r_5.2), (1, .int r_82.2), (0, .ref qh0)]) hx hb dL_isWell_238 hl (by decide) rfl (fun ls hl => ?_)
                    refine lv_iinc (v := (x5 + 1)) (lv' := [(5, .int (x5 + 1)), (4, .int (x4 + (1 : Int32))), (3, .int x3), (2, .int r_5.2), (1, .int r_82.2), (0, .ref qh0)]) hx hb dL_isWell_240 hl (k := 1) rfl rfl (by decide) rfl (fun ls hl => ?_)
                    refine lv_goto (tgt := 213) hx hb dL_isWell_243 (by decide) ?_
                    exact ih (x5 + 1) (x4 + (1 : Int32)) _ _ ls (lv_sub hl [0, 1, 2, 3, 4, 5] rfl) (by omega) (by omega) hI hok
            refine W.widen (k := (kc_199 + 0)) (n := (ks_199 + 0)) (by omega) (by omega) ?_
            exact L213 25 (0 : Int32) (0 : Int32) (kc_199 + 0) (ks_199 + 0) ls (lv_sub hl [0, 1, 2, 3, 4, 5] rfl) (Nat.le_refl _) (Nat.le_refl _) rfl hkI
      refine W.widen (k := (405)) (n := (2430)) (Nat.le_of_ble_eq_true rfl) (Nat.le_of_ble_eq_true rfl) ?_
      exact L199 9 (0 : Int32) _ _ (405) (2430) ls (lv_sub hl [0, 1, 2, 3] rfl) hP hD hS (Nat.le_refl _) (Nat.le_refl _) rfl hkI
    have L27 : ∀ (n : Nat) (x3 : Int32) (x1 : Int32) (H : Heap) (locs : List Loc) (kc_27 ks_27 : Nat) (ls : Array Slot), lv_has ls 8 [(3, .int x3), (2, .int r_5.2), (1, .int x1), (0, .ref qh0)] → va_P G.1 vwCl (fl [[(qh0, .inr (11, [.ref (va 0), .ref q_snapshot, .int q.1, .ref q_history, .ref q_program, .ref q_notice, .int q.2.1, .int q.2.2]))], wSt G va v]) H → va_D A (fl [[(qh0, .inr (11, [.ref (va 0), .ref q_snapshot, .int q.1, .ref q_history, .ref q_program, .ref q_notice, .int q.2.1, .int q.2.2]))], wSt G va v]) → va_S A s.heap H locs → kc_27 + n * 57 ≤ (6) + 399 → ks_27 + n * 342 ≤ (36) + 2394 → (lp_L_isWell_27 q v r_5 7 (0 : Int32) (0 : Int32)) = lp_L_isWell_27 q v r_5 n x3 x1 → okl_lp_L_isWell_27 q v r_5 n x3 x1 → W p l e (rmd 11 1057 6342) s m ([.ref qh0] : List Value).toArray below meth c H locs kc_27 ks_27 (MQ below (wQ (fun u : Int32 => some (.int u)) (fun u : Int32 => u = f_L_isWell q v ∧ narrow .boolean (.int (f_L_isWell q v)) = .int (f_L_isWell q v)) (fun u : Int32 => fl [[(qh0, .inr (11, [.ref (va 0), .ref q_snapshot, .int q.1, .ref q_history, .ref q_program, .ref q_notice, .int q.2.1, .int q.2.2]))], wSt G va v]) G.1 A) ([.ref qh0] : List Value).toArray s 1057 6342 A) (F0 m 27 ls []) := by
      intro n
      induction n with
      | zero => intro x3 x1 H locs kc_27 ks_27 ls hl _ _ _ _ _ hI hok; exact hok.elim
      | succ n ih =>
        intro x3 x1 H locs kc_27 ks_27 ls hl hP hD hS hkc_27 hks_27 hI hok
        have hI : (lp_L_isWell_27 q v r_5 7 (0 : Int32) (0 : Int32)) = (if (f_X9_personCount q v) ≤ x3 then (x3, x1) else (let y_10 : Int32 := (x1 + (f_X9_entriesOf q v x3).2); (let r_75 : Int32 × Int32 × Int32 := (lp_L_isWell_52 q v r_5 x3 x1 y_10 9 (0 : Int32) (0 : Int32) (0 : Int32)); (if (f_X9_doorsOfRing q v x3).2 = r_75.2.2 then (if (f_X9_openDoorsFor q v x3).2 = r_75.2.1 then (lp_L_isWell_27 q v r_5 n (x3 + 1) y_10) else (x3, x1)) else (x3, x1))))) := hI
        have hok : (if (f_X9_personCount q v) ≤ x3 then True else ((f_X9_entriesOf q v x3).1 = "" ∧ (∀ y_10 : Int32, y_10 = (x1 + (f_X9_entriesOf q v x3).2) → (okl_lp_L_isWell_52 q v r_5 x3 x1 y_10 9 (0 : Int32) (0 : Int32) (0 : Int32) ∧ (∀ r_75 : Int32 × Int32 × Int32, r_75 = (lp_L_isWell_52 q v r_5 x3 x1 y_10 9 (0 : Int32) (0 : Int32) (0 : Int32)) → ((f_X9_doorsOfRing q v x3).1 = "" ∧ (if (f_X9_doorsOfRing q v x3).2 = r_75.2.2 then ((f_X9_openDoorsFor q v x3).1 = "" ∧ (if (f_X9_openDoorsFor q v x3).2 = r_75.2.1 then (okl_lp_L_isWell_27 q v r_5 n (x3 + 1) y_10) else False)) else False))))))) := hok
        refine lv_iload_n hx hb dL_isWell_27 rfl (lv_at hl 0 rfl) ?_
        refine lv_aload_n hx hb dL_isWell_28 rfl (lv_at hl 3 rfl) ?_
        refine r_V (own := RL) (v := (some (.int (f_X9_personCount q v)))) (st1 := [.int (f_X9_personCount q v), .int x3]) (As := []) (rest := [.int x3]) (c_X9_personCountS l G qh0 q_snapshot q_history q_program q_notice va q v) ⟨hx, hb, hml, hown, hts⟩ g_L_205 hdv_X9_personCount hK hST hS hP [0, 1, 2, 3, 4, 5, 6, 7, 8, 9, 10, 11, 12, 13, 14, 15, 16, 17, 18, 19, 20] rfl (k0 := 0) rfl rfl rfl ⟨Nat.le_of_ble_eq_true rfl, Nat.le_of_ble_eq_true rfl⟩ ⟨(by show _ ≤ 1057; omega), (by show _ ≤ 6342; omega)⟩ rfl hl.1 rfl (Nat.le_of_ble_eq_true rfl) dL_isWell_29 rfl (fun b_6 => ?_)
        refine lv_icmp_ge (tgt := 197) hx hb dL_isWell_32 (by decide) (fun c_7 => ?_) (fun c_7 => ?_)
        · have hI := hI.trans (if_pos c_7)
          have hok := Eq.mp (if_pos c_7) hok
          refine W.widen (k := (405)) (n := (2430)) (by omega) (by omega) ?_
          exact K27 _ hI.symm _ _ ls (lv_sub hl [0, 1, 2, 3] rfl) hP hD hS
        · have hI := hI.trans (if_neg c_7)
          have hok := Eq.mp (if_neg c_7) hok
          refine lv_iconst (v := (0 : Int32)) hx hb dL_isWell_35 (by decide) ?_
          refine lv_istore (lv' := [(4, .int (0 : Int32)), (3, .int x3), (2, .int r_5.2), (1, .int x1), (0, .ref qh0)]) hx hb dL_isWell_36 hl (by decide) rfl (fun ls hl => ?_)
          refine lv_iconst (v := (0 : Int32)) hx hb dL_isWell_38 (by decide) ?_
          refine lv_istore (lv' := [(5, .int (0 : Int32)), (4, .int (0 : Int32)), (3, .int x3), (2, .int r_5.2), (1, .int x1), (0, .ref qh0)]) hx hb dL_isWell_39 hl (by decide) rfl (fun ls hl => ?_)
          refine lv_iload_n hx hb dL_isWell_41 rfl (lv_at hl 4 rfl) ?_
          refine lv_aload_n hx hb dL_isWell_42 rfl (lv_at hl 5 rfl) ?_
          refine lv_iload_n hx hb dL_isWell_43 rfl (lv_at hl 2 rfl) ?_
          have h_9 := hok.1
          have hok := hok.2
          refine xr_V (own := RL) (v := (some (.int ((f_X9_entriesOf q v x3).2)))) (st1 := [.int ((f_X9_entriesOf q v x3).2), .int x1]) (As := [.int x3]) (rest := [.int x1]) (c_X9_entriesOfS l hlf G qh0 q_snapshot q_history q_program q_notice va q v x3) ⟨hx, hb, hml, hown, hts⟩ g_L_230 hdv_X9_entriesOf hK hST hS hP [0, 1, 2, 3, 4, 5, 6, 7, 8, 9, 10, 11, 12, 13, 14, 15, 16, 17, 18, 19, 20] rfl (k0 := 0) rfl rfl rfl ⟨Nat.le_of_ble_eq_true rfl, Nat.le_of_ble_eq_true rfl⟩ ⟨(by show _ ≤ 1057; omega), (by show _ ≤ 6342; omega)⟩ rfl hl.1 rfl (Nat.le_of_ble_eq_true rfl) dL_isWell_44 rfl (fun E ce q9 H hE h1 h2 h3 h4 h5 => absurd (hE.1.trans h_9) hE.2) (fun b_8 => ?_)
          have hP := hP
          have b_8 := b_8.2
          refine lv_iadd hx hb dL_isWell_47 ?_
          refine lv_topi (fun y_10 ey_10 => ?_)
          have hI : (lp_L_isWell_27 q v r_5 7 (0 : Int32) (0 : Int32)) = (let r_75 : Int32 × Int32 × Int32 := (lp_L_isWell_52 q v r_5 x3 x1 y_10 9 (0 : Int32) (0 : Int32) (0 : Int32)); (if (f_X9_doorsOfRing q v x3).2 = r_75.2.2 then (if (f_X9_openDoorsFor q v x3).2 = r_75.2.1 then (lp_L_isWell_27 q v r_5 n (x3 + 1) y_10) else (x3, x1)) else (x3, x1))) := by subst ey_10; exact hI
          have hok : (okl_lp_L_isWell_52 q v r_5 x3 x1 y_10 9 (0 : Int32) (0 : Int32) (0 : Int32) ∧ (∀ r_75 : Int32 × Int32 × Int32, r_75 = (lp_L_isWell_52 q v r_5 x3 x1 y_10 9 (0 : Int32) (0 : Int32) (0 : Int32)) → ((f_X9_doorsOfRing q v x3).1 = "" ∧ (if (f_X9_doorsOfRing q v x3).2 = r_75.2.2 then ((f_X9_openDoorsFor q v x3).1 = "" ∧ (if (f_X9_openDoorsFor q v x3).2 = r_75.2.1 then (okl_lp_L_isWell_27 q v r_5 n (x3 + 1) y_10) else False)) else False)))) := hok _ ey_10
          refine lv_istore_n (lv' := [(1, .int y_10), (5, .int (0 : Int32)), (4, .int (0 : Int32)), (3, .int x3), (2, .int r_5.2), (0, .ref qh0)]) hx hb dL_isWell_48 rfl hl (by decide) rfl (fun ls hl => ?_)
          refine lv_iconst (v := (0 : Int32)) hx hb dL_isWell_49 (by decide) ?_
          refine lv_istore (lv' := [(6, .int (0 : Int32)), (1, .int y_10), (5, .int (0 : Int32)), (4, .int (0 : Int32)), (3, .int x3), (2, .int r_5.2), (0, .ref qh0)]) hx hb dL_isWell_50 hl (by decide) rfl (fun ls hl => ?_)
          have hkI := hok.1
          have hok := hok.2
          have K52 : ∀ (r_75 : Int32 × Int32 × Int32), r_75 = (lp_L_isWell_52 q v r_5 x3 x1 y_10 9 (0 : Int32) (0 : Int32) (0 : Int32)) → ∀ (H : Heap) (locs : List Loc), ∀ (ls : Array Slot), lv_has ls 8 [(6, .int r_75.1), (1, .int y_10), (5, .int r_75.2.1), (4, .int r_75.2.2), (3, .int x3), (2, .int r_5.2), (0, .ref qh0)] → va_P G.1 vwCl (fl [[(qh0, .inr (11, [.ref (va 0), .ref q_snapshot, .int q.1, .ref q_history, .ref q_program, .ref q_notice, .int q.2.1, .int q.2.2]))], wSt G va v]) H → va_D A (fl [[(qh0, .inr (11, [.ref (va 0), .ref q_snapshot, .int q.1, .ref q_history, .ref q_program, .ref q_notice, .int q.2.1, .int q.2.2]))], wSt G va v]) → va_S A s.heap H locs → W p l e (rmd 11 1057 6342) s m ([.ref qh0] : List Value).toArray below meth c H locs (kc_27 + 55) (ks_27 + 330) (MQ below (wQ (fun u : Int32 => some (.int u)) (fun u : Int32 => u = f_L_isWell q v ∧ narrow .boolean (.int (f_L_isWell q v)) = .int (f_L_isWell q v)) (fun u : Int32 => fl [[(qh0, .inr (11, [.ref (va 0), .ref q_snapshot, .int q.1, .ref q_history, .ref q_program, .ref q_notice, .int q.2.1, .int q.2.2]))], wSt G va v]) G.1 A) ([.ref qh0] : List Value).toArray s 1057 6342 A) (F0 m 169 ls []) := by
            intro r_75 er_75 H locs ls hl hP hD hS
            have hI : (lp_L_isWell_27 q v r_5 7 (0 : Int32) (0 : Int32)) = (if (f_X9_doorsOfRing q v x3).2 = r_75.2.2 then (if (f_X9_openDoorsFor q v x3).2 = r_75.2.1 then (lp_L_isWell_27 q v r_5 n (x3 + 1) y_10) else (x3, x1)) else (x3, x1)) := by subst er_75; exact hI
            have hok : ((f_X9_doorsOfRing q v x3).1 = "" ∧ (if (f_X9_doorsOfRing q v x3).2 = r_75.2.2 then ((f_X9_openDoorsFor q v x3).1 = "" ∧ (if (f_X9_openDoorsFor q v x3).2 = r_75.2.1 then (okl_lp_L_isWell_27 q v r_5 n (x3 + 1) y_10) else False)) else False)) := hok _ er_75
            refine lv_aload_n hx hb dL_isWell_169 rfl (lv_at hl 6 rfl) ?_
            refine lv_iload_n hx hb dL_isWell_170 rfl (lv_at hl 4 rfl) ?_
            have h_77 := hok.1
            have hok := hok.2
            refine xr_V (own := RL) (v := (some (.int ((f_X9_doorsOfRing q v x3).2)))) (st1 := [.int ((f_X9_doorsOfRing q v x3).2)]) (As := [.int x3]) (rest := []) (c_X9_doorsOfRingS l hlf G qh0 q_snapshot q_history q_program q_notice va q v x3) ⟨hx, hb, hml, hown, hts⟩ g_L_249 hdv_X9_doorsOfRing hK hST hS hP [0, 1, 2, 3, 4, 5, 6, 7, 8, 9, 10, 11, 12, 13, 14, 15, 16, 17, 18, 19, 20] rfl (k0 := 0) rfl rfl rfl ⟨Nat.le_of_ble_eq_true rfl, Nat.le_of_ble_eq_true rfl⟩ ⟨(by show _ ≤ 1057; omega), (by show _ ≤ 6342; omega)⟩ rfl hl.1 rfl (Nat.le_of_ble_eq_true rfl) dL_isWell_171 rfl (fun E ce q9 H hE h1 h2 h3 h4 h5 => absurd (hE.1.trans h_77) hE.2) (fun b_76 => ?_)
            have hP := hP
            have b_76 := b_76.2
            refine lv_iload hx hb dL_isWell_174 (lv_at hl 3 rfl) ?_
            refine lv_icmp_ne (tgt := 189) hx hb dL_isWell_176 (by decide) (fun c_78 => ?_) (fun c_78 => ?_)
            · have hI := hI.trans (if_neg c_78)
              have hok := Eq.mp (if_neg c_78) hok
              exact hok.elim
            · have hI := hI.trans (if_pos c_78)
              have hok := Eq.mp (if_pos c_78) hok
              refine lv_aload_n hx hb dL_isWell_179 rfl (lv_at hl 6 rfl) ?_
              refine lv_iload_n hx hb dL_isWell_180 rfl (lv_at hl 4 rfl) ?_
              have h_80 := hok.1
              have hok := hok.2
              refine xr_V (own := RL) (v := (some (.int ((f_X9_openDoorsFor q v x3).2)))) (st1 := [.int ((f_X9_openDoorsFor q v x3).2)]) (As := [.int x3]) (rest := []) (c_X9_openDoorsForS l hlf G qh0 q_snapshot q_history q_program q_notice va q v x3) ⟨hx, hb, hml, hown, hts⟩ g_L_252 hdv_X9_openDoorsFor hK hST hS hP [0, 1, 2, 3, 4, 5, 6, 7, 8, 9, 10, 11, 12, 13, 14, 15, 16, 17, 18, 19, 20] rfl (k0 := 0) rfl rfl rfl ⟨Nat.le_of_ble_eq_true rfl, Nat.le_of_ble_eq_true rfl⟩ ⟨(by show _ ≤ 1057; omega), (by show _ ≤ 6342; omega)⟩ rfl hl.1 rfl (Nat.le_of_ble_eq_true rfl) dL_isWell_181 rfl (fun E ce q9 H hE h1 h2 h3 h4 h5 => absurd (hE.1.trans h_80) hE.2) (fun b_79 => ?_)
              have hP := hP
              have b_79 := b_79.2
              refine lv_iload hx hb dL_isWell_184 (lv_at hl 2 rfl) ?_
              refine lv_icmp_eq (tgt := 191) hx hb dL_isWell_186 (by decide) (fun c_81 => ?_) (fun c_81 => ?_)
              · have hI := hI.trans (if_pos c_81)
                have hok := Eq.mp (if_pos c_81) hok
                refine lv_iinc (v := (x3 + 1)) (lv' := [(3, .int (x3 + 1)), (6, .int r_75.1), (1, .int y_10), (5, .int r_75.2.1), (4, .int r_75.2.2), (2, .int r_5.2), (0, .ref qh0)]) hx hb dL_isWell_191 hl (k := 4) rfl rfl (by decide) rfl (fun ls hl => ?_)
                refine lv_goto (tgt := 27) hx hb dL_isWell_194 (by decide) ?_
                exact ih (x3 + 1) y_10 _ _ _ _ ls (lv_sub hl [0, 5, 2, 6] rfl) hP hD hS (by omega) (by omega) hI hok
              · have hI := hI.trans (if_neg c_81)
                have hok := Eq.mp (if_neg c_81) hok
                exact hok.elim
          have L52 : ∀ (n : Nat) (x6 : Int32) (x5 : Int32) (x4 : Int32) (H : Heap) (locs : List Loc) (kc_52 ks_52 : Nat) (ls : Array Slot), lv_has ls 8 [(6, .int x6), (1, .int y_10), (5, .int x5), (4, .int x4), (3, .int x3), (2, .int r_5.2), (0, .ref qh0)] → va_P G.1 vwCl (fl [[(qh0, .inr (11, [.ref (va 0), .ref q_snapshot, .int q.1, .ref q_history, .ref q_program, .ref q_notice, .int q.2.1, .int q.2.2]))], wSt G va v]) H → va_D A (fl [[(qh0, .inr (11, [.ref (va 0), .ref q_snapshot, .int q.1, .ref q_history, .ref q_program, .ref q_notice, .int q.2.1, .int q.2.2]))], wSt G va v]) → va_S A s.heap H locs → kc_52 + n * 6 ≤ (kc_27 + 1) + 54 → ks_52 + n * 36 ≤ (ks_27 + 6) + 324 → (lp_L_isWell_52 q v r_5 x3 x1 y_10 9 (0 : Int32) (0 : Int32) (0 : Int32)) = lp_L_isWell_52 q v r_5 x3 x1 y_10 n x6 x5 x4 → okl_lp_L_isWell_52 q v r_5 x3 x1 y_10 n x6 x5 x4 → W p l e (rmd 11 1057 6342) s m ([.ref qh0] : List Value).toArray below meth c H locs kc_52 ks_52 (MQ below (wQ (fun u : Int32 => some (.int u)) (fun u : Int32 => u = f_L_isWell q v ∧ narrow .boolean (.int (f_L_isWell q v)) = .int (f_L_isWell q v)) (fun u : Int32 => fl [[(qh0, .inr (11, [.ref (va 0), .ref q_snapshot, .int q.1, .ref q_history, .ref q_program, .ref q_notice, .int q.2.1, .int q.2.2]))], wSt G va v]) G.1 A) ([.ref qh0] : List Value).toArray s 1057 6342 A) (F0 m 52 ls []) := by
            intro n
            induction n with
            | zero => intro x6 x5 x4 H locs kc_52 ks_52 ls hl _ _ _ _ _ hI hok; exact hok.elim
            | succ n ih =>
              intro x6 x5 x4 H locs kc_52 ks_52 ls hl hP hD hS hkc_52 hks_52 hI hok
              have hI : (lp_L_isWell_52 q v r_5 x3 x1 y_10 9 (0 : Int32) (0 : Int32) (0 : Int32)) = (if (f_X9_doorCount q v) ≤ x6 then (x6, x5, x4) else (let uu_15 : Int32 := (f_L_wouldEnter q v x3 x6); (if (f_X9_hasKey q v x3 ((f_X9_keyOf q v x6).2)).2 = (0 : Int32) then (if uu_15 = (0 : Int32) then (if (f_X9_isUnlocked q v x6).2 = (0 : Int32) then (x6, x5, x4) else (x6, x5, x4)) else (if (f_X9_isUnlocked q v x6).2 = (0 : Int32) then (if uu_15 < (0 : Int32) then (x6, x5, x4) else (if uu_15 ≤ (4 : Int32) then (lp_L_isWell_52 q v r_5 x3 x1 y_10 n (x6 + 1) (x5 + (0 : Int32)) (x4 + (0 : Int32))) else (x6, x5, x4))) else (if uu_15 < (0 : Int32) then (x6, x5, x4) else (if uu_15 ≤ (4 : Int32) then (lp_L_isWell_52 q v r_5 x3 x1 y_10 n (x6 + 1) (x5 + (0 : Int32)) (x4 + (0 : Int32))) else (x6, x5, x4))))) else (if uu_15 = (0 : Int32) then (if (f_X9_isUnlocked q v x6).2 = (0 : Int32) then (x6, x5, x4) else (if uu_15 < (0 : Int32) then (x6, x5, x4) else (if uu_15 ≤ (4 : Int32) then (lp_L_isWell_52 q v r_5 x3 x1 y_10 n (x6 + 1) (x5 + (1 : Int32)) (x4 + (1 : Int32))) else (x6, x5, x4)))) else (if (f_X9_isUnlocked q v x6).2 = (0 : Int32) then (if uu_15 < (0 : Int32) then (x6, x5, x4) else (if uu_15 ≤ (4 : Int32) then (lp_L_isWell_52 q v r_5 x3 x1 y_10 n (x6 + 1) (x5 + (0 : Int32)) (x4 + (1 : Int32))) else (x6, x5, x4))) else (x6, x5, x4)))))) := hI
              have hok : (if (f_X9_doorCount q v) ≤ x6 then True else (ok_L_wouldEnter q v x3 x6 ∧ (∀ uu_15 : Int32, uu_15 = (f_L_wouldEnter q v x3 x6) → ((f_X9_keyOf q v x6).1 = "" ∧ ((f_X9_hasKey q v x3 ((f_X9_keyOf q v x6).2)).1 = "" ∧ (if (f_X9_hasKey q v x3 ((f_X9_keyOf q v x6).2)).2 = (0 : Int32) then (if uu_15 = (0 : Int32) then ((f_X9_isUnlocked q v x6).1 = "" ∧ (if (f_X9_isUnlocked q v x6).2 = (0 : Int32) then False else ((f_X9_keyOf q v x6).1 = "" ∧ ((f_X9_hasKey q v x3 ((f_X9_keyOf q v x6).2)).1 = "" ∧ False)))) else ((f_X9_isUnlocked q v x6).1 = "" ∧ (if (f_X9_isUnlocked q v x6).2 = (0 : Int32) then (if uu_15 < (0 : Int32) then False else (if uu_15 ≤ (4 : Int32) then (okl_lp_L_isWell_52 q v r_5 x3 x1 y_10 n (x6 + 1) (x5 + (0 : Int32)) (x4 + (0 : Int32))) else False)) else ((f_X9_keyOf q v x6).1 = "" ∧ ((f_X9_hasKey q v x3 ((f_X9_keyOf q v x6).2)).1 = "" ∧ (if uu_15 < (0 : Int32) then False else (if uu_15 ≤ (4 : Int32) then (okl_lp_L_isWell_52 q v r_5 x3 x1 y_10 n (x6 + 1) (x5 + (0 : Int32)) (x4 + (0 : Int32))) else False))))))) else (if uu_15 = (0 : Int32) then ((f_X9_isUnlocked q v x6).1 = "" ∧ (if (f_X9_isUnlocked q v x6).2 = (0 : Int32) then False else ((f_X9_keyOf q v x6).1 = "" ∧ ((f_X9_hasKey q v x3 ((f_X9_keyOf q v x6).2)).1 = "" ∧ (if uu_15 < (0 : Int32) then False else (if uu_15 ≤ (4 : Int32) then (okl_lp_L_isWell_52 q v r_5 x3 x1 y_10 n (x6 + 1) (x5 + (1 : Int32)) (x4 + (1 : Int32))) else False)))))) else ((f_X9_isUnlocked q v x6).1 = "" ∧ (if (f_X9_isUnlocked q v x6).2 = (0 : Int32) then (if uu_15 < (0 : Int32) then False else (if uu_15 ≤ (4 : Int32) then (okl_lp_L_isWell_52 q v r_5 x3 x1 y_10 n (x6 + 1) (x5 + (0 : Int32)) (x4 + (1 : Int32))) else False)) else ((f_X9_keyOf q v x6).1 = "" ∧ ((f_X9_hasKey q v x3 ((f_X9_keyOf q v x6).2)).1 = "" ∧ False))))))))))) := hok
              refine lv_iload hx hb dL_isWell_52 (lv_at hl 0 rfl) ?_
              refine lv_aload_n hx hb dL_isWell_54 rfl (lv_at hl 6 rfl) ?_
              refine r_V (own := RL) (v := (some (.int (f_X9_doorCount q v)))) (st1 := [.int (f_X9_doorCount q v), .int x6]) (As := []) (rest := [.int x6]) (c_X9_doorCountS l G qh0 q_snapshot q_history q_program q_notice va q v) ⟨hx, hb, hml, hown, hts⟩ g_L_202 hdv_X9_doorCount hK hST hS hP [0, 1, 2, 3, 4, 5, 6, 7, 8, 9, 10, 11, 12, 13, 14, 15, 16, 17, 18, 19, 20] rfl (k0 := 0) rfl rfl rfl ⟨Nat.le_of_ble_eq_true rfl, Nat.le_of_ble_eq_true rfl⟩ ⟨(by show _ ≤ 1057; omega), (by show _ ≤ 6342; omega)⟩ rfl hl.1 rfl (Nat.le_of_ble_eq_true rfl) dL_isWell_55 rfl (fun b_11 => ?_)
              refine lv_icmp_ge (tgt := 169) hx hb dL_isWell_58 (by decide) (fun c_12 => ?_) (fun c_12 => ?_)
              · have hI := hI.trans (if_pos c_12)
                have hok := Eq.mp (if_pos c_12) hok
                refine W.widen (k := (kc_27 + 55)) (n := (ks_27 + 330)) (by omega) (by omega) ?_
                exact K52 _ hI.symm _ _ ls (lv_sub hl [0, 1, 2, 3, 4, 5, 6] rfl) hP hD hS
              · have hI := hI.trans (if_neg c_12)
                have hok := Eq.mp (if_neg c_12) hok
                refine lv_aload_n hx hb dL_isWell_61 rfl (lv_at hl 6 rfl) ?_
                refine lv_iload_n hx hb dL_isWell_62 rfl (lv_at hl 4 rfl) ?_
                refine lv_iload hx hb dL_isWell_63 (lv_at hl 0 rfl) ?_
                have k_13 := hok.1
                have hok := hok.2
                refine w_SH (own := RL) (cs := [[(qh0, .inr (11, [.ref (va 0), .ref q_snapshot, .int q.1, .ref q_history, .ref q_program, .ref q_notice, .int q.2.1, .int q.2.2]))], wSt G va v]) (rs := []) (As := [.ref qh0, .int x3, .int x6]) (rest := []) (c_L_wouldEnter l hlf G qh0 q_snapshot q_history q_program q_notice va H.size q v x3 x6 k_13) ⟨hx, hb, hml, hown, hts⟩ gh_L_247 hds_L_wouldEnter hK hST hS hP hD hA [0, 1] [] rfl rfl rfl ⟨Nat.le_of_ble_eq_true rfl, Nat.le_of_ble_eq_true rfl⟩ ⟨(by show _ ≤ 1057; omega), (by show _ ≤ 6342; omega)⟩ rfl hl.1 rfl (Nat.le_of_ble_eq_true rfl) dL_isWell_65 (fun uu_15 H locs huu hP hD hS => ?_)
                have euu_15 := huu
                have hP : va_P G.1 vwCl (fl [[(qh0, .inr (11, [.ref (va 0), .ref q_snapshot, .int q.1, .ref q_history, .ref q_program, .ref q_notice, .int q.2.1, .int q.2.2]))], wSt G va v]) H := hP
                have hD : va_D A (fl [[(qh0, .inr (11, [.ref (va 0), .ref q_snapshot, .int q.1, .ref q_history, .ref q_program, .ref q_notice, .int q.2.1, .int q.2.2]))], wSt G va v]) := hD
                refine W.eq (g2 := F0 m 68 ls [.int uu_15]) rfl ?_
                have hI : (lp_L_isWell_52 q v r_5 x3 x1 y_10 9 (0 : Int32) (0 : Int32) (0 : Int32)) = (if (f_X9_hasKey q v x3 ((f_X9_keyOf q v x6).2)).2 = (0 : Int32) then (if uu_15 = (0 : Int32) then (if (f_X9_isUnlocked q v x6).2 = (0 : Int32) then (x6, x5, x4) else (x6, x5, x4)) else (if (f_X9_isUnlocked q v x6).2 = (0 : Int32) then (if uu_15 < (0 : Int32) then (x6, x5, x4) else (if uu_15 ≤ (4 : Int32) then (lp_L_isWell_52 q v r_5 x3 x1 y_10 n (x6 + 1) (x5 + (0 : Int32)) (x4 + (0 : Int32))) else (x6, x5, x4))) else (if uu_15 < (0 : Int32) then (x6, x5, x4) else (if uu_15 ≤ (4 : Int32) then (lp_L_isWell_52 q v r_5 x3 x1 y_10 n (x6 + 1) (x5 + (0 : Int32)) (x4 + (0 : Int32))) else (x6, x5, x4))))) else (if uu_15 = (0 : Int32) then (if (f_X9_isUnlocked q v x6).2 = (0 : Int32) then (x6, x5, x4) else (if uu_15 < (0 : Int32) then (x6, x5, x4) else (if uu_15 ≤ (4 : Int32) then (lp_L_isWell_52 q v r_5 x3 x1 y_10 n (x6 + 1) (x5 + (1 : Int32)) (x4 + (1 : Int32))) else (x6, x5, x4)))) else (if (f_X9_isUnlocked q v x6).2 = (0 : Int32) then (if uu_15 < (0 : Int32) then (x6, x5, x4) else (if uu_15 ≤ (4 : Int32) then (lp_L_isWell_52 q v r_5 x3 x1 y_10 n (x6 + 1) (x5 + (0 : Int32)) (x4 + (1 : Int32))) else (x6, x5, x4))) else (x6, x5, x4)))) := by subst euu_15; exact hI
                have hok : ((f_X9_keyOf q v x6).1 = "" ∧ ((f_X9_hasKey q v x3 ((f_X9_keyOf q v x6).2)).1 = "" ∧ (if (f_X9_hasKey q v x3 ((f_X9_keyOf q v x6).2)).2 = (0 : Int32) then (if uu_15 = (0 : Int32) then ((f_X9_isUnlocked q v x6).1 = "" ∧ (if (f_X9_isUnlocked q v x6).2 = (0 : Int32) then False else ((f_X9_keyOf q v x6).1 = "" ∧ ((f_X9_hasKey q v x3 ((f_X9_keyOf q v x6).2)).1 = "" ∧ False)))) else ((f_X9_isUnlocked q v x6).1 = "" ∧ (if (f_X9_isUnlocked q v x6).2 = (0 : Int32) then (if uu_15 < (0 : Int32) then False else (if uu_15 ≤ (4 : Int32) then (okl_lp_L_isWell_52 q v r_5 x3 x1 y_10 n (x6 + 1) (x5 + (0 : Int32)) (x4 + (0 : Int32))) else False)) else ((f_X9_keyOf q v x6).1 = "" ∧ ((f_X9_hasKey q v x3 ((f_X9_keyOf q v x6).2)).1 = "" ∧ (if uu_15 < (0 : Int32) then False else (if uu_15 ≤ (4 : Int32) then (okl_lp_L_isWell_52 q v r_5 x3 x1 y_10 n (x6 + 1) (x5 + (0 : Int32)) (x4 + (0 : Int32))) else False))))))) else (if uu_15 = (0 : Int32) then ((f_X9_isUnlocked q v x6).1 = "" ∧ (if (f_X9_isUnlocked q v x6).2 = (0 : Int32) then False else ((f_X9_keyOf q v x6).1 = "" ∧ ((f_X9_hasKey q v x3 ((f_X9_keyOf q v x6).2)).1 = "" ∧ (if uu_15 < (0 : Int32) then False else (if uu_15 ≤ (4 : Int32) then (okl_lp_L_isWell_52 q v r_5 x3 x1 y_10 n (x6 + 1) (x5 + (1 : Int32)) (x4 + (1 : Int32))) else False)))))) else ((f_X9_isUnlocked q v x6).1 = "" ∧ (if (f_X9_isUnlocked q v x6).2 = (0 : Int32) then (if uu_15 < (0 : Int32) then False else (if uu_15 ≤ (4 : Int32) then (okl_lp_L_isWell_52 q v r_5 x3 x1 y_10 n (x6 + 1) (x5 + (0 : Int32)) (x4 + (1 : Int32))) else False)) else ((f_X9_keyOf q v x6).1 = "" ∧ ((f_X9_hasKey q v x3 ((f_X9_keyOf q v x6).2)).1 = "" ∧ False)))))))) := hok _ euu_15
                refine lv_istore (lv' := [(7, .int uu_15), (6, .int x6), (1, .int y_10), (5, .int x5), (4, .int x4), (3, .int x3), (2, .int r_5.2), (0, .ref qh0)]) hx hb dL_isWell_68 hl (by decide) rfl (fun ls hl => ?_)
                refine lv_iload hx hb dL_isWell_70 (lv_at hl 4 rfl) ?_
                refine lv_aload_n hx hb dL_isWell_72 rfl (lv_at hl 7 rfl) ?_
                refine lv_iload_n hx hb dL_isWell_73 rfl (lv_at hl 5 rfl) ?_
                refine lv_aload_n hx hb dL_isWell_74 rfl (lv_at hl 7 rfl) ?_
                refine lv_iload hx hb dL_isWell_75 (lv_at hl 1 rfl) ?_
                have h_17 := hok.1
                have hok := hok.2
                refine xr_V (own := RL) (v := (some (.int ((f_X9_keyOf q v x6).2)))) (st1 := [.int ((f_X9_keyOf q v x6).2), .int x3, .ref qh0, .int x4]) (As := [.int x6]) (rest := [.int x3, .ref qh0, .int x4]) (c_X9_keyOfS l hlf G qh0 q_snapshot q_history q_program q_notice va q v x6) ⟨hx, hb, hml, hown, hts⟩ g_L_214 hdv_X9_keyOf hK hST hS hP [0, 1, 2, 3, 4, 5, 6, 7, 8, 9, 10, 11, 12, 13, 14, 15, 16, 17, 18, 19, 20] rfl (k0 := 0) rfl rfl rfl ⟨Nat.le_of_ble_eq_true rfl, Nat.le_of_ble_eq_true rfl⟩ ⟨(by show _ ≤ 1057; omega), (by show _ ≤ 6342; omega)⟩ rfl hl.1 rfl (Nat.le_of_ble_eq_true rfl) dL_isWell_77 rfl (fun E ce q9 H hE h1 h2 h3 h4 h5 => absurd (hE.1.trans h_17) hE.2) (fun b_16 => ?_)
                have hP := hP
                have b_16 := b_16.2
                have h_19 := hok.1
                have hok := hok.2
                refine xr_V (own := RL) (v := (some (.int ((f_X9_hasKey q v x3 ((f_X9_keyOf q v x6).2)).2)))) (st1 := [.int ((f_X9_hasKey q v x3 ((f_X9_keyOf q v x6).2)).2), .int x4]) (As := [.int x3, .int ((f_X9_keyOf q v x6).2)]) (rest := [.int x4]) (c_X9_hasKeyS l hlf G qh0 q_snapshot q_history q_program q_notice va q v x3 ((f_X9_keyOf q v x6).2)) ⟨hx, hb, hml, hown, hts⟩ g_L_233 hdv_X9_hasKey hK hST hS hP [0, 1, 2, 3, 4, 5, 6, 7, 8, 9, 10, 11, 12, 13, 14, 15, 16, 17, 18, 19, 20] rfl (k0 := 0) rfl rfl rfl ⟨Nat.le_of_ble_eq_true rfl, Nat.le_of_ble_eq_true rfl⟩ ⟨(by show _ ≤ 1057; omega), (by show _ ≤ 6342; omega)⟩ rfl hl.1 rfl (Nat.le_of_ble_eq_true rfl) dL_isWell_80 rfl (fun E ce q9 H hE h1 h2 h3 h4 h5 => absurd (hE.1.trans h_19) hE.2) (fun b_18 => ?_)
                have hP := hP
                have b_18 := b_18.2
                refine lv_if_eq (tgt := 90) hx hb dL_isWell_83 (by decide) (fun c_20 => ?_) (fun c_20 => ?_)
                · have hI := hI.trans (if_pos c_20)
                  have hok := Eq.mp (if_pos c_20) hok
                  refine lv_iconst (v := (0 : Int32)) hx hb dL_isWell_90 (by decide) ?_
                  refine lv_iadd hx hb dL_isWell_91 ?_
                  refine lv_istore (lv' := [(4, .int (x4 + (0 : Int32))), (7, .int uu_15), (6, .int x6), (1, .int y_10), (5, .int x5), (3, .int x3), (2, .int r_5.2), (0, .ref qh0)]) hx hb dL_isWell_92 hl (by decide) rfl (fun ls hl => ?_)
                  refine lv_iload hx hb dL_isWell_94 (lv_at hl 4 rfl) ?_
                  refine lv_iload hx hb dL_isWell_96 (lv_at hl 1 rfl) ?_
                  refine lv_if_ne (tgt := 105) hx hb dL_isWell_98 (by decide) (fun c_21 => ?_) (fun c_21 => ?_)
                  · have hI := hI.trans (if_neg c_21)
                    have hok := Eq.mp (if_neg c_21) hok
                    refine lv_iconst (v := (0 : Int32)) hx hb dL_isWell_105 (by decide) ?_
                    refine lv_iadd hx hb dL_isWell_106 ?_
                    refine lv_istore (lv' := [(5, .int (x5 + (0 : Int32))), (4, .int (x4 + (0 : Int32))), (7, .int uu_15), (6, .int x6), (1, .int y_10), (3, .int x3), (2, .int r_5.2), (0, .ref qh0)]) hx hb dL_isWell_107 hl (by decide) rfl (fun ls hl => ?_)
                    refine lv_iload hx hb dL_isWell_109 (lv_at hl 2 rfl) ?_
                    refine lv_if_ne (tgt := 118) hx hb dL_isWell_111 (by decide) (fun c_22 => ?_) (fun c_22 => ?_)
                    · refine lv_iconst (v := (0 : Int32)) hx hb dL_isWell_118 (by decide) ?_
                      refine lv_aload_n hx hb dL_isWell_119 rfl (lv_at hl 7 rfl) ?_
                      refine lv_iload hx hb dL_isWell_120 (lv_at hl 3 rfl) ?_
                      have h_24 := hok.1
                      have hok := hok.2
                      refine xr_V (own := RL) (v := (some (.int ((f_X9_isUnlocked q v x6).2)))) (st1 := [.int ((f_X9_isUnlocked q v x6).2), .int (0 : Int32)]) (As := [.int x6]) (rest := [.int (0 : Int32)]) (c_X9_isUnlockedS l hlf G qh0 q_snapshot q_history q_program q_notice va q v x6) ⟨hx, hb, hml, hown, hts⟩ g_L_220 hdv_X9_isUnlocked hK hST hS hP [0, 1, 2, 3, 4, 5, 6, 7, 8, 9, 10, 11, 12, 13, 14, 15, 16, 17, 18, 19, 20] rfl (k0 := 0) rfl rfl rfl ⟨Nat.le_of_ble_eq_true rfl, Nat.le_of_ble_eq_true rfl⟩ ⟨(by show _ ≤ 1057; omega), (by show _ ≤ 6342; omega)⟩ rfl hl.1 rfl (Nat.le_of_ble_eq_true rfl) dL_isWell_122 rfl (fun E ce q9 H hE h1 h2 h3 h4 h5 => absurd (hE.1.trans h_24) hE.2) (fun b_23 => ?_)
                      have hP := hP
                      have b_23 := b_23.2
                      refine lv_if_eq (tgt := 146) hx hb dL_isWell_125 (by decide) (fun c_25 => ?_) (fun c_25 => ?_)
                      · have hI := hI.trans (if_pos c_25)
                        have hok := Eq.mp (if_pos c_25) hok
                        refine lv_iconst (v := (0 : Int32)) hx hb dL_isWell_146 (by decide) ?_
                        refine lv_icmp_ne (tgt := 161) hx hb dL_isWell_147 (by decide) (fun c_26 => ?_) (fun c_26 => ?_)
                        · exact absurd c_26 (by decide)
                        · refine lv_iload hx hb dL_isWell_150 (lv_at hl 2 rfl) ?_
                          refine lv_if_lt (tgt := 161) hx hb dL_isWell_152 (by decide) (fun c_27 => ?_) (fun c_27 => ?_)
                          · have hI := hI.trans (if_pos c_27)
                            have hok := Eq.mp (if_pos c_27) hok
                            exact hok.elim
                          · have hI := hI.trans (if_neg c_27)
                            have hok := Eq.mp (if_neg c_27) hok
                            refine lv_iload hx hb dL_isWell_155 (lv_at hl 2 rfl) ?_
                            refine lv_iconst (v := (4 : Int32)) hx hb dL_isWell_157 (by decide) ?_
                            refine lv_icmp_le (tgt := 163) hx hb dL_isWell_158 (by decide) (fun c_28 => ?_) (fun c_28 => ?_)
                            · have hI := hI.trans (if_pos c_28)
                              have hok := Eq.mp (if_pos c_28) hok
                              refine lv_iinc (v := (x6 + 1)) (lv' := [(6, .int (x6 + 1)), (5, .int (x5 + (0 : Int32))), (4, .int (x4 + (0 : Int32))), (7, .int uu_15), (1, .int y_10), (3, .int x3), (2, .int r_5.2), (0, .ref qh0)]) hx hb dL_isWell_163 hl (k := 3) rfl rfl (by decide) rfl (fun ls hl => ?_)
                              refine lv_goto (tgt := 52) hx hb dL_isWell_166 (by decide) ?_
                              exact ih (x6 + 1) (x5 + (0 : Int32)) (x4 + (0 : Int32)) _ _ _ _ ls (lv_sub hl [0, 4, 1, 2, 5, 6, 7] rfl) hP hD hS (by omega) (by omega) hI hok
                            · have hI := hI.trans (if_neg c_28)
                              have hok := Eq.mp (if_neg c_28) hok
                              exact hok.elim
                      · have hI := hI.trans (if_neg c_25)
                        have hok := Eq.mp (if_neg c_25) hok
                        refine lv_aload_n hx hb dL_isWell_128 rfl (lv_at hl 7 rfl) ?_
                        refine lv_iload_n hx hb dL_isWell_129 rfl (lv_at hl 5 rfl) ?_
                        refine lv_aload_n hx hb dL_isWell_130 rfl (lv_at hl 7 rfl) ?_
                        refine lv_iload hx hb dL_isWell_131 (lv_at hl 3 rfl) ?_
                        have h_30 := hok.1
                        have hok := hok.2
                        refine xr_V (own := RL) (v := (some (.int ((f_X9_keyOf q v x6).2)))) (st1 := [.int ((f_X9_keyOf q v x6).2), .int x3, .ref qh0, .int (0 : Int32)]) (As := [.int x6]) (rest := [.int x3, .ref qh0, .int (0 : Int32)]) (c_X9_keyOfS l hlf G qh0 q_snapshot q_history q_program q_notice va q v x6) ⟨hx, hb, hml, hown, hts⟩ g_L_214 hdv_X9_keyOf hK hST hS hP [0, 1, 2, 3, 4, 5, 6, 7, 8, 9, 10, 11, 12, 13, 14, 15, 16, 17, 18, 19, 20] rfl (k0 := 0) rfl rfl rfl ⟨Nat.le_of_ble_eq_true rfl, Nat.le_of_ble_eq_true rfl⟩ ⟨(by show _ ≤ 1057; omega), (by show _ ≤ 6342; omega)⟩ rfl hl.1 rfl (Nat.le_of_ble_eq_true rfl) dL_isWell_133 rfl (fun E ce q9 H hE h1 h2 h3 h4 h5 => absurd (hE.1.trans h_30) hE.2) (fun b_29 => ?_)
                        have hP := hP
                        have b_29 := b_29.2
                        have h_32 := hok.1
                        have hok := hok.2
                        refine xr_V (own := RL) (v := (some (.int ((f_X9_hasKey q v x3 ((f_X9_keyOf q v x6).2)).2)))) (st1 := [.int ((f_X9_hasKey q v x3 ((f_X9_keyOf q v x6).2)).2), .int (0 : Int32)]) (As := [.int x3, .int ((f_X9_keyOf q v x6).2)]) (rest := [.int (0 : Int32)]) (c_X9_hasKeyS l hlf G qh0 q_snapshot q_history q_program q_notice va q v x3 ((f_X9_keyOf q v x6).2)) ⟨hx, hb, hml, hown, hts⟩ g_L_233 hdv_X9_hasKey hK hST hS hP [0, 1, 2, 3, 4, 5, 6, 7, 8, 9, 10, 11, 12, 13, 14, 15, 16, 17, 18, 19, 20] rfl (k0 := 0) rfl rfl rfl ⟨Nat.le_of_ble_eq_true rfl, Nat.le_of_ble_eq_true rfl⟩ ⟨(by show _ ≤ 1057; omega), (by show _ ≤ 6342; omega)⟩ rfl hl.1 rfl (Nat.le_of_ble_eq_true rfl) dL_isWell_136 rfl (fun E ce q9 H hE h1 h2 h3 h4 h5 => absurd (hE.1.trans h_32) hE.2) (fun b_31 => ?_)
                        have hP := hP
                        have b_31 := b_31.2
                        refine lv_if_eq (tgt := 146) hx hb dL_isWell_139 (by decide) (fun c_33 => ?_) (fun c_33 => ?_)
                        · refine lv_iconst (v := (0 : Int32)) hx hb dL_isWell_146 (by decide) ?_
                          refine lv_icmp_ne (tgt := 161) hx hb dL_isWell_147 (by decide) (fun c_34 => ?_) (fun c_34 => ?_)
                          · exact absurd c_34 (by decide)
                          · refine lv_iload hx hb dL_isWell_150 (lv_at hl 2 rfl) ?_
                            refine lv_if_lt (tgt := 161) hx hb dL_isWell_152 (by decide) (fun c_35 => ?_) (fun c_35 => ?_)
                            · have hI := hI.trans (if_pos c_35)
                              have hok := Eq.mp (if_pos c_35) hok
                              exact hok.elim
                            · have hI := hI.trans (if_neg c_35)
                              have hok := Eq.mp (if_neg c_35) hok
                              refine lv_iload hx hb dL_isWell_155 (lv_at hl 2 rfl) ?_
                              refine lv_iconst (v := (4 : Int32)) hx hb dL_isWell_157 (by decide) ?_
                              refine lv_icmp_le (tgt := 163) hx hb dL_isWell_158 (by decide) (fun c_36 => ?_) (fun c_36 => ?_)
                              · have hI := hI.trans (if_pos c_36)
                                have hok := Eq.mp (if_pos c_36) hok
                                refine lv_iinc (v := (x6 + 1)) (lv' := [(6, .int (x6 + 1)), (5, .int (x5 + (0 : Int32))), (4, .int (x4 + (0 : Int32))), (7, .int uu_15), (1, .int y_10), (3, .int x3), (2, .int r_5.2), (0, .ref qh0)]) hx hb dL_isWell_163 hl (k := 3) rfl rfl (by decide) rfl (fun ls hl => ?_)
                                refine lv_goto (tgt := 52) hx hb dL_isWell_166 (by decide) ?_
                                exact ih (x6 + 1) (x5 + (0 : Int32)) (x4 + (0 : Int32)) _ _ _ _ ls (lv_sub hl [0, 4, 1, 2, 5, 6, 7] rfl) hP hD hS (by omega) (by omega) hI hok
                              · have hI := hI.trans (if_neg c_36)
                                have hok := Eq.mp (if_neg c_36) hok
                                exact hok.elim
                        · exact absurd c_20 c_33
                    · exact absurd c_22 c_21
                  · have hI := hI.trans (if_pos c_21)
                    have hok := Eq.mp (if_pos c_21) hok
                    refine lv_iconst (v := (1 : Int32)) hx hb dL_isWell_101 (by decide) ?_
                    refine lv_goto (tgt := 106) hx hb dL_isWell_102 (by decide) ?_
                    refine lv_iadd hx hb dL_isWell_106 ?_
                    refine lv_istore (lv' := [(5, .int (x5 + (1 : Int32))), (4, .int (x4 + (0 : Int32))), (7, .int uu_15), (6, .int x6), (1, .int y_10), (3, .int x3), (2, .int r_5.2), (0, .ref qh0)]) hx hb dL_isWell_107 hl (by decide) rfl (fun ls hl => ?_)
                    refine lv_iload hx hb dL_isWell_109 (lv_at hl 2 rfl) ?_
                    refine lv_if_ne (tgt := 118) hx hb dL_isWell_111 (by decide) (fun c_37 => ?_) (fun c_37 => ?_)
                    · exact absurd c_21 c_37
                    · refine lv_iconst (v := (1 : Int32)) hx hb dL_isWell_114 (by decide) ?_
                      refine lv_goto (tgt := 119) hx hb dL_isWell_115 (by decide) ?_
                      refine lv_aload_n hx hb dL_isWell_119 rfl (lv_at hl 7 rfl) ?_
                      refine lv_iload hx hb dL_isWell_120 (lv_at hl 3 rfl) ?_
                      have h_39 := hok.1
                      have hok := hok.2
                      refine xr_V (own := RL) (v := (some (.int ((f_X9_isUnlocked q v x6).2)))) (st1 := [.int ((f_X9_isUnlocked q v x6).2), .int (1 : Int32)]) (As := [.int x6]) (rest := [.int (1 : Int32)]) (c_X9_isUnlockedS l hlf G qh0 q_snapshot q_history q_program q_notice va q v x6) ⟨hx, hb, hml, hown, hts⟩ g_L_220 hdv_X9_isUnlocked hK hST hS hP [0, 1, 2, 3, 4, 5, 6, 7, 8, 9, 10, 11, 12, 13, 14, 15, 16, 17, 18, 19, 20] rfl (k0 := 0) rfl rfl rfl ⟨Nat.le_of_ble_eq_true rfl, Nat.le_of_ble_eq_true rfl⟩ ⟨(by show _ ≤ 1057; omega), (by show _ ≤ 6342; omega)⟩ rfl hl.1 rfl (Nat.le_of_ble_eq_true rfl) dL_isWell_122 rfl (fun E ce q9 H hE h1 h2 h3 h4 h5 => absurd (hE.1.trans h_39) hE.2) (fun b_38 => ?_)
                      have hP := hP
                      have b_38 := b_38.2
                      refine lv_if_eq (tgt := 146) hx hb dL_isWell_125 (by decide) (fun c_40 => ?_) (fun c_40 => ?_)
                      · have hI := hI.trans (if_pos c_40)
                        have hok := Eq.mp (if_pos c_40) hok
                        refine lv_iconst (v := (0 : Int32)) hx hb dL_isWell_146 (by decide) ?_
                        refine lv_icmp_ne (tgt := 161) hx hb dL_isWell_147 (by decide) (fun c_41 => ?_) (fun c_41 => ?_)
                        · exact hok.elim
                        · exact absurd c_41 (by decide)
                      · have hI := hI.trans (if_neg c_40)
                        have hok := Eq.mp (if_neg c_40) hok
                        refine lv_aload_n hx hb dL_isWell_128 rfl (lv_at hl 7 rfl) ?_
                        refine lv_iload_n hx hb dL_isWell_129 rfl (lv_at hl 5 rfl) ?_
                        refine lv_aload_n hx hb dL_isWell_130 rfl (lv_at hl 7 rfl) ?_
                        refine lv_iload hx hb dL_isWell_131 (lv_at hl 3 rfl) ?_
                        have h_43 := hok.1
                        have hok := hok.2
                        refine xr_V (own := RL) (v := (some (.int ((f_X9_keyOf q v x6).2)))) (st1 := [.int ((f_X9_keyOf q v x6).2), .int x3, .ref qh0, .int (1 : Int32)]) (As := [.int x6]) (rest := [.int x3, .ref qh0, .int (1 : Int32)]) (c_X9_keyOfS l hlf G qh0 q_snapshot q_history q_program q_notice va q v x6) ⟨hx, hb, hml, hown, hts⟩ g_L_214 hdv_X9_keyOf hK hST hS hP [0, 1, 2, 3, 4, 5, 6, 7, 8, 9, 10, 11, 12, 13, 14, 15, 16, 17, 18, 19, 20] rfl (k0 := 0) rfl rfl rfl ⟨Nat.le_of_ble_eq_true rfl, Nat.le_of_ble_eq_true rfl⟩ ⟨(by show _ ≤ 1057; omega), (by show _ ≤ 6342; omega)⟩ rfl hl.1 rfl (Nat.le_of_ble_eq_true rfl) dL_isWell_133 rfl (fun E ce q9 H hE h1 h2 h3 h4 h5 => absurd (hE.1.trans h_43) hE.2) (fun b_42 => ?_)
                        have hP := hP
                        have b_42 := b_42.2
                        have h_45 := hok.1
                        have hok := hok.2
                        refine xr_V (own := RL) (v := (some (.int ((f_X9_hasKey q v x3 ((f_X9_keyOf q v x6).2)).2)))) (st1 := [.int ((f_X9_hasKey q v x3 ((f_X9_keyOf q v x6).2)).2), .int (1 : Int32)]) (As := [.int x3, .int ((f_X9_keyOf q v x6).2)]) (rest := [.int (1 : Int32)]) (c_X9_hasKeyS l hlf G qh0 q_snapshot q_history q_program q_notice va q v x3 ((f_X9_keyOf q v x6).2)) ⟨hx, hb, hml, hown, hts⟩ g_L_233 hdv_X9_hasKey hK hST hS hP [0, 1, 2, 3, 4, 5, 6, 7, 8, 9, 10, 11, 12, 13, 14, 15, 16, 17, 18, 19, 20] rfl (k0 := 0) rfl rfl rfl ⟨Nat.le_of_ble_eq_true rfl, Nat.le_of_ble_eq_true rfl⟩ ⟨(by show _ ≤ 1057; omega), (by show _ ≤ 6342; omega)⟩ rfl hl.1 rfl (Nat.le_of_ble_eq_true rfl) dL_isWell_136 rfl (fun E ce q9 H hE h1 h2 h3 h4 h5 => absurd (hE.1.trans h_45) hE.2) (fun b_44 => ?_)
                        have hP := hP
                        have b_44 := b_44.2
                        refine lv_if_eq (tgt := 146) hx hb dL_isWell_139 (by decide) (fun c_46 => ?_) (fun c_46 => ?_)
                        · refine lv_iconst (v := (0 : Int32)) hx hb dL_isWell_146 (by decide) ?_
                          refine lv_icmp_ne (tgt := 161) hx hb dL_isWell_147 (by decide) (fun c_47 => ?_) (fun c_47 => ?_)
                          · exact hok.elim
                          · exact absurd c_47 (by decide)
                        · exact absurd c_20 c_46
                · have hI := hI.trans (if_neg c_20)
                  have hok := Eq.mp (if_neg c_20) hok
                  refine lv_iconst (v := (1 : Int32)) hx hb dL_isWell_86 (by decide) ?_
                  refine lv_goto (tgt := 91) hx hb dL_isWell_87 (by decide) ?_
                  refine lv_iadd hx hb dL_isWell_91 ?_
                  refine lv_istore (lv' := [(4, .int (x4 + (1 : Int32))), (7, .int uu_15), (6, .int x6), (1, .int y_10), (5, .int x5), (3, .int x3), (2, .int r_5.2), (0, .ref qh0)]) hx hb dL_isWell_92 hl (by decide) rfl (fun ls hl => ?_)
                  refine lv_iload hx hb dL_isWell_94 (lv_at hl 4 rfl) ?_
                  refine lv_iload hx hb dL_isWell_96 (lv_at hl 1 rfl) ?_
                  refine lv_if_ne (tgt := 105) hx hb dL_isWell_98 (by decide) (fun c_48 => ?_) (fun c_48 => ?_)
                  · have hI := hI.trans (if_neg c_48)
                    have hok := Eq.mp (if_neg c_48) hok
                    refine lv_iconst (v := (0 : Int32)) hx hb dL_isWell_105 (by decide) ?_
                    refine lv_iadd hx hb dL_isWell_106 ?_
                    refine lv_istore (lv' := [(5, .int (x5 + (0 : Int32))), (4, .int (x4 + (1 : Int32))), (7, .int uu_15), (6, .int x6), (1, .int y_10), (3, .int x3), (2, .int r_5.2), (0, .ref qh0)]) hx hb dL_isWell_107 hl (by decide) rfl (fun ls hl => ?_)
                    refine lv_iload hx hb dL_isWell_109 (lv_at hl 2 rfl) ?_
                    refine lv_if_ne (tgt := 118) hx hb dL_isWell_111 (by decide) (fun c_49 => ?_) (fun c_49 => ?_)
                    · refine lv_iconst (v := (0 : Int32)) hx hb dL_isWell_118 (by decide) ?_
                      refine lv_aload_n hx hb dL_isWell_119 rfl (lv_at hl 7 rfl) ?_
                      refine lv_iload hx hb dL_isWell_120 (lv_at hl 3 rfl) ?_
                      have h_51 := hok.1
                      have hok := hok.2
                      refine xr_V (own := RL) (v := (some (.int ((f_X9_isUnlocked q v x6).2)))) (st1 := [.int ((f_X9_isUnlocked q v x6).2), .int (0 : Int32)]) (As := [.int x6]) (rest := [.int (0 : Int32)]) (c_X9_isUnlockedS l hlf G qh0 q_snapshot q_history q_program q_notice va q v x6) ⟨hx, hb, hml, hown, hts⟩ g_L_220 hdv_X9_isUnlocked hK hST hS hP [0, 1, 2, 3, 4, 5, 6, 7, 8, 9, 10, 11, 12, 13, 14, 15, 16, 17, 18, 19, 20] rfl (k0 := 0) rfl rfl rfl ⟨Nat.le_of_ble_eq_true rfl, Nat.le_of_ble_eq_true rfl⟩ ⟨(by show _ ≤ 1057; omega), (by show _ ≤ 6342; omega)⟩ rfl hl.1 rfl (Nat.le_of_ble_eq_true rfl) dL_isWell_122 rfl (fun E ce q9 H hE h1 h2 h3 h4 h5 => absurd (hE.1.trans h_51) hE.2) (fun b_50 => ?_)
                      have hP := hP
                      have b_50 := b_50.2
                      refine lv_if_eq (tgt := 146) hx hb dL_isWell_125 (by decide) (fun c_52 => ?_) (fun c_52 => ?_)
                      · have hI := hI.trans (if_pos c_52)
                        have hok := Eq.mp (if_pos c_52) hok
                        refine lv_iconst (v := (0 : Int32)) hx hb dL_isWell_146 (by decide) ?_
                        refine lv_icmp_ne (tgt := 161) hx hb dL_isWell_147 (by decide) (fun c_53 => ?_) (fun c_53 => ?_)
                        · exact absurd c_53 (by decide)
                        · refine lv_iload hx hb dL_isWell_150 (lv_at hl 2 rfl) ?_
                          refine lv_if_lt (tgt := 161) hx hb dL_isWell_152 (by decide) (fun c_54 => ?_) (fun c_54 => ?_)
                          · have hI := hI.trans (if_pos c_54)
                            have hok := Eq.mp (if_pos c_54) hok
                            exact hok.elim
                          · have hI := hI.trans (if_neg c_54)
                            have hok := Eq.mp (if_neg c_54) hok
                            refine lv_iload hx hb dL_isWell_155 (lv_at hl 2 rfl) ?_
                            refine lv_iconst (v := (4 : Int32)) hx hb dL_isWell_157 (by decide) ?_
                            refine lv_icmp_le (tgt := 163) hx hb dL_isWell_158 (by decide) (fun c_55 => ?_) (fun c_55 => ?_)
                            · have hI := hI.trans (if_pos c_55)
                              have hok := Eq.mp (if_pos c_55) hok
                              refine lv_iinc (v := (x6 + 1)) (lv' := [(6, .int (x6 + 1)), (5, .int (x5 + (0 : Int32))), (4, .int (x4 + (1 : Int32))), (7, .int uu_15), (1, .int y_10), (3, .int x3), (2, .int r_5.2), (0, .ref qh0)]) hx hb dL_isWell_163 hl (k := 3) rfl rfl (by decide) rfl (fun ls hl => ?_)
                              refine lv_goto (tgt := 52) hx hb dL_isWell_166 (by decide) ?_
                              exact ih (x6 + 1) (x5 + (0 : Int32)) (x4 + (1 : Int32)) _ _ _ _ ls (lv_sub hl [0, 4, 1, 2, 5, 6, 7] rfl) hP hD hS (by omega) (by omega) hI hok
                            · have hI := hI.trans (if_neg c_55)
                              have hok := Eq.mp (if_neg c_55) hok
                              exact hok.elim
                      · have hI := hI.trans (if_neg c_52)
                        have hok := Eq.mp (if_neg c_52) hok
                        refine lv_aload_n hx hb dL_isWell_128 rfl (lv_at hl 7 rfl) ?_
                        refine lv_iload_n hx hb dL_isWell_129 rfl (lv_at hl 5 rfl) ?_
                        refine lv_aload_n hx hb dL_isWell_130 rfl (lv_at hl 7 rfl) ?_
                        refine lv_iload hx hb dL_isWell_131 (lv_at hl 3 rfl) ?_
                        have h_57 := hok.1
                        have hok := hok.2
                        refine xr_V (own := RL) (v := (some (.int ((f_X9_keyOf q v x6).2)))) (st1 := [.int ((f_X9_keyOf q v x6).2), .int x3, .ref qh0, .int (0 : Int32)]) (As := [.int x6]) (rest := [.int x3, .ref qh0, .int (0 : Int32)]) (c_X9_keyOfS l hlf G qh0 q_snapshot q_history q_program q_notice va q v x6) ⟨hx, hb, hml, hown, hts⟩ g_L_214 hdv_X9_keyOf hK hST hS hP [0, 1, 2, 3, 4, 5, 6, 7, 8, 9, 10, 11, 12, 13, 14, 15, 16, 17, 18, 19, 20] rfl (k0 := 0) rfl rfl rfl ⟨Nat.le_of_ble_eq_true rfl, Nat.le_of_ble_eq_true rfl⟩ ⟨(by show _ ≤ 1057; omega), (by show _ ≤ 6342; omega)⟩ rfl hl.1 rfl (Nat.le_of_ble_eq_true rfl) dL_isWell_133 rfl (fun E ce q9 H hE h1 h2 h3 h4 h5 => absurd (hE.1.trans h_57) hE.2) (fun b_56 => ?_)
                        have hP := hP
                        have b_56 := b_56.2
                        have h_59 := hok.1
                        have hok := hok.2
                        refine xr_V (own := RL) (v := (some (.int ((f_X9_hasKey q v x3 ((f_X9_keyOf q v x6).2)).2)))) (st1 := [.int ((f_X9_hasKey q v x3 ((f_X9_keyOf q v x6).2)).2), .int (0 : Int32)]) (As := [.int x3, .int ((f_X9_keyOf q v x6).2)]) (rest := [.int (0 : Int32)]) (c_X9_hasKeyS l hlf G qh0 q_snapshot q_history q_program q_notice va q v x3 ((f_X9_keyOf q v x6).2)) ⟨hx, hb, hml, hown, hts⟩ g_L_233 hdv_X9_hasKey hK hST hS hP [0, 1, 2, 3, 4, 5, 6, 7, 8, 9, 10, 11, 12, 13, 14, 15, 16, 17, 18, 19, 20] rfl (k0 := 0) rfl rfl rfl ⟨Nat.le_of_ble_eq_true rfl, Nat.le_of_ble_eq_true rfl⟩ ⟨(by show _ ≤ 1057; omega), (by show _ ≤ 6342; omega)⟩ rfl hl.1 rfl (Nat.le_of_ble_eq_true rfl) dL_isWell_136 rfl (fun E ce q9 H hE h1 h2 h3 h4 h5 => absurd (hE.1.trans h_59) hE.2) (fun b_58 => ?_)
                        have hP := hP
                        have b_58 := b_58.2
                        refine lv_if_eq (tgt := 146) hx hb dL_isWell_139 (by decide) (fun c_60 => ?_) (fun c_60 => ?_)
                        · exact absurd c_60 c_20
                        · refine lv_iconst (v := (1 : Int32)) hx hb dL_isWell_142 (by decide) ?_
                          refine lv_goto (tgt := 147) hx hb dL_isWell_143 (by decide) ?_
                          refine lv_icmp_ne (tgt := 161) hx hb dL_isWell_147 (by decide) (fun c_61 => ?_) (fun c_61 => ?_)
                          · exact hok.elim
                          · exact absurd c_61 (by decide)
                    · exact absurd c_49 c_48
                  · have hI := hI.trans (if_pos c_48)
                    have hok := Eq.mp (if_pos c_48) hok
                    refine lv_iconst (v := (1 : Int32)) hx hb dL_isWell_101 (by decide) ?_
                    refine lv_goto (tgt := 106) hx hb dL_isWell_102 (by decide) ?_
                    refine lv_iadd hx hb dL_isWell_106 ?_
                    refine lv_istore (lv' := [(5, .int (x5 + (1 : Int32))), (4, .int (x4 + (1 : Int32))), (7, .int uu_15), (6, .int x6), (1, .int y_10), (3, .int x3), (2, .int r_5.2), (0, .ref qh0)]) hx hb dL_isWell_107 hl (by decide) rfl (fun ls hl => ?_)
                    refine lv_iload hx hb dL_isWell_109 (lv_at hl 2 rfl) ?_
                    refine lv_if_ne (tgt := 118) hx hb dL_isWell_111 (by decide) (fun c_62 => ?_) (fun c_62 => ?_)
                    · exact absurd c_48 c_62
                    · refine lv_iconst (v := (1 : Int32)) hx hb dL_isWell_114 (by decide) ?_
                      refine lv_goto (tgt := 119) hx hb dL_isWell_115 (by decide) ?_
                      refine lv_aload_n hx hb dL_isWell_119 rfl (lv_at hl 7 rfl) ?_
                      refine lv_iload hx hb dL_isWell_120 (lv_at hl 3 rfl) ?_
                      have h_64 := hok.1
                      have hok := hok.2
                      refine xr_V (own := RL) (v := (some (.int ((f_X9_isUnlocked q v x6).2)))) (st1 := [.int ((f_X9_isUnlocked q v x6).2), .int (1 : Int32)]) (As := [.int x6]) (rest := [.int (1 : Int32)]) (c_X9_isUnlockedS l hlf G qh0 q_snapshot q_history q_program q_notice va q v x6) ⟨hx, hb, hml, hown, hts⟩ g_L_220 hdv_X9_isUnlocked hK hST hS hP [0, 1, 2, 3, 4, 5, 6, 7, 8, 9, 10, 11, 12, 13, 14, 15, 16, 17, 18, 19, 20] rfl (k0 := 0) rfl rfl rfl ⟨Nat.le_of_ble_eq_true rfl, Nat.le_of_ble_eq_true rfl⟩ ⟨(by show _ ≤ 1057; omega), (by show _ ≤ 6342; omega)⟩ rfl hl.1 rfl (Nat.le_of_ble_eq_true rfl) dL_isWell_122 rfl (fun E ce q9 H hE h1 h2 h3 h4 h5 => absurd (hE.1.trans h_64) hE.2) (fun b_63 => ?_)
                      have hP := hP
                      have b_63 := b_63.2
                      refine lv_if_eq (tgt := 146) hx hb dL_isWell_125 (by decide) (fun c_65 => ?_) (fun c_65 => ?_)
                      · have hI := hI.trans (if_pos c_65)
                        have hok := Eq.mp (if_pos c_65) hok
                        refine lv_iconst (v := (0 : Int32)) hx hb dL_isWell_146 (by decide) ?_
                        refine lv_icmp_ne (tgt := 161) hx hb dL_isWell_147 (by decide) (fun c_66 => ?_) (fun c_66 => ?_)
                        · exact hok.elim
                        · exact absurd c_66 (by decide)
                      · have hI := hI.trans (if_neg c_65)
                        have hok := Eq.mp (if_neg c_65) hok
                        refine lv_aload_n hx hb dL_isWell_128 rfl (lv_at hl 7 rfl) ?_
                        refine lv_iload_n hx hb dL_isWell_129 rfl (lv_at hl 5 rfl) ?_
                        refine lv_aload_n hx hb dL_isWell_130 rfl (lv_at hl 7 rfl) ?_
                        refine lv_iload hx hb dL_isWell_131 (lv_at hl 3 rfl) ?_
                        have h_68 := hok.1
                        have hok := hok.2
                        refine xr_V (own := RL) (v := (some (.int ((f_X9_keyOf q v x6).2)))) (st1 := [.int ((f_X9_keyOf q v x6).2), .int x3, .ref qh0, .int (1 : Int32)]) (As := [.int x6]) (rest := [.int x3, .ref qh0, .int (1 : Int32)]) (c_X9_keyOfS l hlf G qh0 q_snapshot q_history q_program q_notice va q v x6) ⟨hx, hb, hml, hown, hts⟩ g_L_214 hdv_X9_keyOf hK hST hS hP [0, 1, 2, 3, 4, 5, 6, 7, 8, 9, 10, 11, 12, 13, 14, 15, 16, 17, 18, 19, 20] rfl (k0 := 0) rfl rfl rfl ⟨Nat.le_of_ble_eq_true rfl, Nat.le_of_ble_eq_true rfl⟩ ⟨(by show _ ≤ 1057; omega), (by show _ ≤ 6342; omega)⟩ rfl hl.1 rfl (Nat.le_of_ble_eq_true rfl) dL_isWell_133 rfl (fun E ce q9 H hE h1 h2 h3 h4 h5 => absurd (hE.1.trans h_68) hE.2) (fun b_67 => ?_)
                        have hP := hP
                        have b_67 := b_67.2
                        have h_70 := hok.1
                        have hok := hok.2
                        refine xr_V (own := RL) (v := (some (.int ((f_X9_hasKey q v x3 ((f_X9_keyOf q v x6).2)).2)))) (st1 := [.int ((f_X9_hasKey q v x3 ((f_X9_keyOf q v x6).2)).2), .int (1 : Int32)]) (As := [.int x3, .int ((f_X9_keyOf q v x6).2)]) (rest := [.int (1 : Int32)]) (c_X9_hasKeyS l hlf G qh0 q_snapshot q_history q_program q_notice va q v x3 ((f_X9_keyOf q v x6).2)) ⟨hx, hb, hml, hown, hts⟩ g_L_233 hdv_X9_hasKey hK hST hS hP [0, 1, 2, 3, 4, 5, 6, 7, 8, 9, 10, 11, 12, 13, 14, 15, 16, 17, 18, 19, 20] rfl (k0 := 0) rfl rfl rfl ⟨Nat.le_of_ble_eq_true rfl, Nat.le_of_ble_eq_true rfl⟩ ⟨(by show _ ≤ 1057; omega), (by show _ ≤ 6342; omega)⟩ rfl hl.1 rfl (Nat.le_of_ble_eq_true rfl) dL_isWell_136 rfl (fun E ce q9 H hE h1 h2 h3 h4 h5 => absurd (hE.1.trans h_70) hE.2) (fun b_69 => ?_)
                        have hP := hP
                        have b_69 := b_69.2
                        refine lv_if_eq (tgt := 146) hx hb dL_isWell_139 (by decide) (fun c_71 => ?_) (fun c_71 => ?_)
                        · exact absurd c_71 c_20
                        · refine lv_iconst (v := (1 : Int32)) hx hb dL_isWell_142 (by decide) ?_
                          refine lv_goto (tgt := 147) hx hb dL_isWell_143 (by decide) ?_
                          refine lv_icmp_ne (tgt := 161) hx hb dL_isWell_147 (by decide) (fun c_72 => ?_) (fun c_72 => ?_)
                          · exact absurd c_72 (by decide)
                          · refine lv_iload hx hb dL_isWell_150 (lv_at hl 2 rfl) ?_
                            refine lv_if_lt (tgt := 161) hx hb dL_isWell_152 (by decide) (fun c_73 => ?_) (fun c_73 => ?_)
                            · have hI := hI.trans (if_pos c_73)
                              have hok := Eq.mp (if_pos c_73) hok
                              exact hok.elim
                            · have hI := hI.trans (if_neg c_73)
                              have hok := Eq.mp (if_neg c_73) hok
                              refine lv_iload hx hb dL_isWell_155 (lv_at hl 2 rfl) ?_
                              refine lv_iconst (v := (4 : Int32)) hx hb dL_isWell_157 (by decide) ?_
                              refine lv_icmp_le (tgt := 163) hx hb dL_isWell_158 (by decide) (fun c_74 => ?_) (fun c_74 => ?_)
                              · have hI := hI.trans (if_pos c_74)
                                have hok := Eq.mp (if_pos c_74) hok
                                refine lv_iinc (v := (x6 + 1)) (lv' := [(6, .int (x6 + 1)), (5, .int (x5 + (1 : Int32))), (4, .int (x4 + (1 : Int32))), (7, .int uu_15), (1, .int y_10), (3, .int x3), (2, .int r_5.2), (0, .ref qh0)]) hx hb dL_isWell_163 hl (k := 3) rfl rfl (by decide) rfl (fun ls hl => ?_)
                                refine lv_goto (tgt := 52) hx hb dL_isWell_166 (by decide) ?_
                                exact ih (x6 + 1) (x5 + (1 : Int32)) (x4 + (1 : Int32)) _ _ _ _ ls (lv_sub hl [0, 4, 1, 2, 5, 6, 7] rfl) hP hD hS (by omega) (by omega) hI hok
                              · have hI := hI.trans (if_neg c_74)
                                have hok := Eq.mp (if_neg c_74) hok
                                exact hok.elim
          refine W.widen (k := (kc_27 + 1)) (n := (ks_27 + 6)) (by omega) (by omega) ?_
          exact L52 9 (0 : Int32) (0 : Int32) (0 : Int32) _ _ (kc_27 + 1) (ks_27 + 6) ls (lv_sub hl [0, 1, 2, 3, 4, 5, 6] rfl) hP hD hS (Nat.le_refl _) (Nat.le_refl _) rfl hkI
    refine W.widen (k := (6)) (n := (36)) (Nat.le_of_ble_eq_true rfl) (Nat.le_of_ble_eq_true rfl) ?_
    exact L27 7 (0 : Int32) (0 : Int32) _ _ (6) (36) ls (lv_sub hl [0, 1, 2, 3] rfl) hP hD hS (Nat.le_refl _) (Nat.le_refl _) rfl hkI
  have L6 : ∀ (n : Nat) (x3 : Int32) (x2 : Int32) (kc_6 ks_6 : Nat) (ls : Array Slot), lv_has ls 8 [(3, .int x3), (2, .int x2), (1, .int (0 : Int32)), (0, .ref qh0)] → kc_6 + n * 1 ≤ (0) + 6 → ks_6 + n * 6 ≤ (0) + 36 → (lp_L_isWell_6 q v 6 (0 : Int32) (0 : Int32)) = lp_L_isWell_6 q v n x3 x2 → okl_lp_L_isWell_6 q v n x3 x2 → W p l e (rmd 11 1057 6342) s m ([.ref qh0] : List Value).toArray below meth c s.heap [] kc_6 ks_6 (MQ below (wQ (fun u : Int32 => some (.int u)) (fun u : Int32 => u = f_L_isWell q v ∧ narrow .boolean (.int (f_L_isWell q v)) = .int (f_L_isWell q v)) (fun u : Int32 => fl [[(qh0, .inr (11, [.ref (va 0), .ref q_snapshot, .int q.1, .ref q_history, .ref q_program, .ref q_notice, .int q.2.1, .int q.2.2]))], wSt G va v]) G.1 A) ([.ref qh0] : List Value).toArray s 1057 6342 A) (F0 m 6 ls []) := by
    intro n
    induction n with
    | zero => intro x3 x2 kc_6 ks_6 ls hl _ _ hI hok; exact hok.elim
    | succ n ih =>
      intro x3 x2 kc_6 ks_6 ls hl hkc_6 hks_6 hI hok
      have hI : (lp_L_isWell_6 q v 6 (0 : Int32) (0 : Int32)) = (if (5 : Int32) ≤ x3 then (x3, x2) else (let y_4 : Int32 := (x2 + (f_X9_attemptsWith q v x3).2); (lp_L_isWell_6 q v n (x3 + 1) y_4))) := hI
      have hok : (if (5 : Int32) ≤ x3 then True else ((f_X9_attemptsWith q v x3).1 = "" ∧ (∀ y_4 : Int32, y_4 = (x2 + (f_X9_attemptsWith q v x3).2) → (okl_lp_L_isWell_6 q v n (x3 + 1) y_4)))) := hok
      refine lv_iload_n hx hb dL_isWell_6 rfl (lv_at hl 0 rfl) ?_
      refine lv_iconst (v := (5 : Int32)) hx hb dL_isWell_7 (by decide) ?_
      refine lv_icmp_ge (tgt := 25) hx hb dL_isWell_8 (by decide) (fun c_1 => ?_) (fun c_1 => ?_)
      · have hI := hI.trans (if_pos c_1)
        have hok := Eq.mp (if_pos c_1) hok
        refine W.widen (k := (6)) (n := (36)) (by omega) (by omega) ?_
        exact K6 _ hI.symm ls (lv_sub hl [0, 1, 2, 3] rfl)
      · have hI := hI.trans (if_neg c_1)
        have hok := Eq.mp (if_neg c_1) hok
        refine lv_iload_n hx hb dL_isWell_11 rfl (lv_at hl 1 rfl) ?_
        refine lv_aload_n hx hb dL_isWell_12 rfl (lv_at hl 3 rfl) ?_
        refine lv_iload_n hx hb dL_isWell_13 rfl (lv_at hl 0 rfl) ?_
        have h_3 := hok.1
        have hok := hok.2
        refine xr_V (own := RL) (v := (some (.int ((f_X9_attemptsWith q v x3).2)))) (st1 := [.int ((f_X9_attemptsWith q v x3).2), .int x2]) (As := [.int x3]) (rest := [.int x2]) (c_X9_attemptsWithS l hlf G qh0 q_snapshot q_history q_program q_notice va q v x3) ⟨hx, hb, hml, hown, hts⟩ g_L_208 hdv_X9_attemptsWith hK hST hS hP [0, 1, 2, 3, 4, 5, 6, 7, 8, 9, 10, 11, 12, 13, 14, 15, 16, 17, 18, 19, 20] rfl (k0 := 0) rfl rfl rfl ⟨Nat.le_of_ble_eq_true rfl, Nat.le_of_ble_eq_true rfl⟩ ⟨(by show _ ≤ 1057; omega), (by show _ ≤ 6342; omega)⟩ rfl hl.1 rfl (Nat.le_of_ble_eq_true rfl) dL_isWell_14 rfl (fun E ce q9 H hE h1 h2 h3 h4 h5 => absurd (hE.1.trans h_3) hE.2) (fun b_2 => ?_)
        have hP := hP
        have b_2 := b_2.2
        refine lv_iadd hx hb dL_isWell_17 ?_
        refine lv_topi (fun y_4 ey_4 => ?_)
        have hI : (lp_L_isWell_6 q v 6 (0 : Int32) (0 : Int32)) = (lp_L_isWell_6 q v n (x3 + 1) y_4) := by subst ey_4; exact hI
        have hok : (okl_lp_L_isWell_6 q v n (x3 + 1) y_4) := hok _ ey_4
        refine lv_istore_n (lv' := [(2, .int y_4), (3, .int x3), (1, .int (0 : Int32)), (0, .ref qh0)]) hx hb dL_isWell_18 rfl hl (by decide) rfl (fun ls hl => ?_)
        refine lv_iinc (v := (x3 + 1)) (lv' := [(3, .int (x3 + 1)), (2, .int y_4), (1, .int (0 : Int32)), (0, .ref qh0)]) hx hb dL_isWell_19 hl (k := 1) rfl rfl (by decide) rfl (fun ls hl => ?_)
        refine lv_goto (tgt := 6) hx hb dL_isWell_22 (by decide) ?_
        exact ih (x3 + 1) y_4 _ _ ls (lv_sub hl [0, 1, 2, 3] rfl) (by omega) (by omega) hI hok
  refine W.widen (k := (0)) (n := (0)) (Nat.le_of_ble_eq_true rfl) (Nat.le_of_ble_eq_true rfl) ?_
  exact L6 6 (0 : Int32) (0 : Int32) (0) (0) ls (lv_sub hl [0, 1, 2, 3] rfl) (Nat.le_refl _) (Nat.le_refl _) rfl hkI
