theorem dL_seen_0 : decode cL_seen 0 = .ok (.sipush 260, 3) := by decide +kernel
theorem dL_seen_3 : decode cL_seen 3 = .ok (.newarray .int, 2) := by decide +kernel
theorem dL_seen_5 : decode cL_seen 5 = .ok (.astore_n 1, 1) := by decide +kernel
theorem dL_seen_6 : decode cL_seen 6 = .ok (.aload_n 1, 1) := by decide +kernel
theorem dL_seen_7 : decode cL_seen 7 = .ok (.iconst 0, 1) := by decide +kernel
theorem dL_seen_8 : decode cL_seen 8 = .ok (.bipush 24, 2) := by decide +kernel
theorem dL_seen_10 : decode cL_seen 10 = .ok (.aload_n 0, 1) := by decide +kernel
theorem dL_seen_11 : decode cL_seen 11 = .ok (.invokevirtual 149, 3) := by decide +kernel
theorem u_55 : Cond.methodLink RL 149 yX9_day ∈ UW := uw 55 (by decide +kernel) rfl
theorem u_56 : Cond.instanceMethod yX9_day ∈ UW := uw 56 (by decide +kernel) rfl
theorem u_57 : Cond.selects RX9 yX9_day yX9_day ∈ UW := uw 57 (by decide +kernel) rfl
theorem u_58 : Cond.code yX9_day cX9_day 1 (some .int) ∈ UW := uw 58 (by decide +kernel) rfl
theorem g_L_149 : GoodIn UW (wsV RL 149 RX9 yX9_day (wsU yX9_day cX9_day 1 (some .int))) := gV u_55 u_56 u_57 u_21 u_58
theorem hdv_X9_day : yX9_day.cls = RX9 ∧ yX9_day.cls ≠ "java/lang/invoke/MethodHandle" ∧ yX9_day.cls ≠ "java/lang/invoke/VarHandle" ∧ (parseMethodDescriptor yX9_day.desc).map (fun d => d.parameters.length) = some 0 := by decide +kernel
theorem dL_seen_14 : decode cL_seen 14 = .ok (.imul, 1) := by decide +kernel
theorem dL_seen_15 : decode cL_seen 15 = .ok (.aload_n 0, 1) := by decide +kernel
theorem dL_seen_16 : decode cL_seen 16 = .ok (.invokevirtual 199, 3) := by decide +kernel
theorem u_1402 : Cond.methodLink RL 199 yX9_hour ∈ UW := uw 1402 (by decide +kernel) rfl
theorem u_1403 : Cond.instanceMethod yX9_hour ∈ UW := uw 1403 (by decide +kernel) rfl
theorem u_1404 : Cond.selects RX9 yX9_hour yX9_hour ∈ UW := uw 1404 (by decide +kernel) rfl
theorem u_1405 : Cond.code yX9_hour cX9_hour 1 (some .int) ∈ UW := uw 1405 (by decide +kernel) rfl
theorem g_L_199 : GoodIn UW (wsV RL 199 RX9 yX9_hour (wsU yX9_hour cX9_hour 1 (some .int))) := gV u_1402 u_1403 u_1404 u_21 u_1405
theorem hdv_X9_hour : yX9_hour.cls = RX9 ∧ yX9_hour.cls ≠ "java/lang/invoke/MethodHandle" ∧ yX9_hour.cls ≠ "java/lang/invoke/VarHandle" ∧ (parseMethodDescriptor yX9_hour.desc).map (fun d => d.parameters.length) = some 0 := by decide +kernel
theorem dL_seen_19 : decode cL_seen 19 = .ok (.iadd, 1) := by decide +kernel
theorem dL_seen_20 : decode cL_seen 20 = .ok (.iastore, 1) := by decide +kernel
theorem dL_seen_21 : decode cL_seen 21 = .ok (.aload_n 1, 1) := by decide +kernel
theorem dL_seen_22 : decode cL_seen 22 = .ok (.iconst 1, 1) := by decide +kernel
theorem dL_seen_23 : decode cL_seen 23 = .ok (.aload_n 0, 1) := by decide +kernel
theorem dL_seen_24 : decode cL_seen 24 = .ok (.invokevirtual 202, 3) := by decide +kernel
theorem u_1407 : Cond.methodLink RL 202 yX9_doorCount ∈ UW := uw 1407 (by decide +kernel) rfl
theorem u_1408 : Cond.instanceMethod yX9_doorCount ∈ UW := uw 1408 (by decide +kernel) rfl
theorem u_1409 : Cond.selects RX9 yX9_doorCount yX9_doorCount ∈ UW := uw 1409 (by decide +kernel) rfl
theorem u_1410 : Cond.code yX9_doorCount cX9_doorCount 1 (some .int) ∈ UW := uw 1410 (by decide +kernel) rfl
theorem g_L_202 : GoodIn UW (wsV RL 202 RX9 yX9_doorCount (wsU yX9_doorCount cX9_doorCount 1 (some .int))) := gV u_1407 u_1408 u_1409 u_21 u_1410
theorem hdv_X9_doorCount : yX9_doorCount.cls = RX9 ∧ yX9_doorCount.cls ≠ "java/lang/invoke/MethodHandle" ∧ yX9_doorCount.cls ≠ "java/lang/invoke/VarHandle" ∧ (parseMethodDescriptor yX9_doorCount.desc).map (fun d => d.parameters.length) = some 0 := by decide +kernel
theorem dL_seen_27 : decode cL_seen 27 = .ok (.iastore, 1) := by decide +kernel
theorem dL_seen_28 : decode cL_seen 28 = .ok (.aload_n 1, 1) := by decide +kernel
theorem dL_seen_29 : decode cL_seen 29 = .ok (.iconst 2, 1) := by decide +kernel
theorem dL_seen_30 : decode cL_seen 30 = .ok (.aload_n 0, 1) := by decide +kernel
theorem dL_seen_31 : decode cL_seen 31 = .ok (.invokevirtual 205, 3) := by decide +kernel
theorem u_1411 : Cond.methodLink RL 205 yX9_personCount ∈ UW := uw 1411 (by decide +kernel) rfl
theorem u_1412 : Cond.instanceMethod yX9_personCount ∈ UW := uw 1412 (by decide +kernel) rfl
theorem u_1413 : Cond.selects RX9 yX9_personCount yX9_personCount ∈ UW := uw 1413 (by decide +kernel) rfl
theorem u_1414 : Cond.code yX9_personCount cX9_personCount 1 (some .int) ∈ UW := uw 1414 (by decide +kernel) rfl
theorem g_L_205 : GoodIn UW (wsV RL 205 RX9 yX9_personCount (wsU yX9_personCount cX9_personCount 1 (some .int))) := gV u_1411 u_1412 u_1413 u_21 u_1414
theorem hdv_X9_personCount : yX9_personCount.cls = RX9 ∧ yX9_personCount.cls ≠ "java/lang/invoke/MethodHandle" ∧ yX9_personCount.cls ≠ "java/lang/invoke/VarHandle" ∧ (parseMethodDescriptor yX9_personCount.desc).map (fun d => d.parameters.length) = some 0 := by decide +kernel
theorem dL_seen_34 : decode cL_seen 34 = .ok (.iastore, 1) := by decide +kernel
theorem dL_seen_35 : decode cL_seen 35 = .ok (.aload_n 1, 1) := by decide +kernel
theorem dL_seen_36 : decode cL_seen 36 = .ok (.iconst 3, 1) := by decide +kernel
theorem dL_seen_37 : decode cL_seen 37 = .ok (.aload_n 0, 1) := by decide +kernel
theorem dL_seen_38 : decode cL_seen 38 = .ok (.invokevirtual 152, 3) := by decide +kernel
theorem u_1189 : Cond.methodLink RL 152 yX9_exceptionCount ∈ UW := uw 1189 (by decide +kernel) rfl
theorem u_1190 : Cond.instanceMethod yX9_exceptionCount ∈ UW := uw 1190 (by decide +kernel) rfl
theorem u_1191 : Cond.selects RX9 yX9_exceptionCount yX9_exceptionCount ∈ UW := uw 1191 (by decide +kernel) rfl
theorem u_1192 : Cond.code yX9_exceptionCount cX9_exceptionCount 1 (some .int) ∈ UW := uw 1192 (by decide +kernel) rfl
theorem g_L_152 : GoodIn UW (wsV RL 152 RX9 yX9_exceptionCount (wsU yX9_exceptionCount cX9_exceptionCount 1 (some .int))) := gV u_1189 u_1190 u_1191 u_21 u_1192
theorem hdv_X9_exceptionCount : yX9_exceptionCount.cls = RX9 ∧ yX9_exceptionCount.cls ≠ "java/lang/invoke/MethodHandle" ∧ yX9_exceptionCount.cls ≠ "java/lang/invoke/VarHandle" ∧ (parseMethodDescriptor yX9_exceptionCount.desc).map (fun d => d.parameters.length) = some 0 := by decide +kernel
theorem dL_seen_41 : decode cL_seen 41 = .ok (.iastore, 1) := by decide +kernel
theorem dL_seen_42 : decode cL_seen 42 = .ok (.iconst 0, 1) := by decide +kernel
theorem dL_seen_43 : decode cL_seen 43 = .ok (.istore_n 2, 1) := by decide +kernel
theorem dL_seen_44 : decode cL_seen 44 = .ok (.iload_n 2, 1) := by decide +kernel
theorem dL_seen_45 : decode cL_seen 45 = .ok (.iconst 5, 1) := by decide +kernel
theorem dL_seen_46 : decode cL_seen 46 = .ok (.if_icmp .ge 19, 3) := by decide +kernel
theorem dL_seen_49 : decode cL_seen 49 = .ok (.aload_n 1, 1) := by decide +kernel
theorem dL_seen_50 : decode cL_seen 50 = .ok (.iconst 4, 1) := by decide +kernel
theorem dL_seen_51 : decode cL_seen 51 = .ok (.iload_n 2, 1) := by decide +kernel
theorem dL_seen_52 : decode cL_seen 52 = .ok (.iadd, 1) := by decide +kernel
theorem dL_seen_53 : decode cL_seen 53 = .ok (.aload_n 0, 1) := by decide +kernel
theorem dL_seen_54 : decode cL_seen 54 = .ok (.iload_n 2, 1) := by decide +kernel
theorem dL_seen_55 : decode cL_seen 55 = .ok (.invokevirtual 208, 3) := by decide +kernel
theorem u_1415 : Cond.methodLink RL 208 yX9_attemptsWith ∈ UW := uw 1415 (by decide +kernel) rfl
theorem u_1416 : Cond.instanceMethod yX9_attemptsWith ∈ UW := uw 1416 (by decide +kernel) rfl
theorem u_1417 : Cond.selects RX9 yX9_attemptsWith yX9_attemptsWith ∈ UW := uw 1417 (by decide +kernel) rfl
theorem u_1418 : Cond.code yX9_attemptsWith cX9_attemptsWith 2 (some .int) ∈ UW := uw 1418 (by decide +kernel) rfl
theorem g_L_208 : GoodIn UW (wsV RL 208 RX9 yX9_attemptsWith (wsU yX9_attemptsWith cX9_attemptsWith 2 (some .int))) := gV u_1415 u_1416 u_1417 u_21 u_1418
theorem hdv_X9_attemptsWith : yX9_attemptsWith.cls = RX9 ∧ yX9_attemptsWith.cls ≠ "java/lang/invoke/MethodHandle" ∧ yX9_attemptsWith.cls ≠ "java/lang/invoke/VarHandle" ∧ (parseMethodDescriptor yX9_attemptsWith.desc).map (fun d => d.parameters.length) = some 1 := by decide +kernel
theorem dL_seen_58 : decode cL_seen 58 = .ok (.iastore, 1) := by decide +kernel
theorem dL_seen_59 : decode cL_seen 59 = .ok (.iinc 2 1, 3) := by decide +kernel
theorem dL_seen_62 : decode cL_seen 62 = .ok (.goto (-18), 3) := by decide +kernel
theorem dL_seen_65 : decode cL_seen 65 = .ok (.iconst 0, 1) := by decide +kernel
theorem dL_seen_66 : decode cL_seen 66 = .ok (.istore_n 2, 1) := by decide +kernel
theorem dL_seen_67 : decode cL_seen 67 = .ok (.iload_n 2, 1) := by decide +kernel
theorem dL_seen_68 : decode cL_seen 68 = .ok (.aload_n 0, 1) := by decide +kernel
theorem dL_seen_69 : decode cL_seen 69 = .ok (.invokevirtual 202, 3) := by decide +kernel
theorem dL_seen_72 : decode cL_seen 72 = .ok (.if_icmp .ge 110, 3) := by decide +kernel
theorem dL_seen_75 : decode cL_seen 75 = .ok (.bipush 10, 2) := by decide +kernel
theorem dL_seen_77 : decode cL_seen 77 = .ok (.bipush 20, 2) := by decide +kernel
theorem dL_seen_79 : decode cL_seen 79 = .ok (.iload_n 2, 1) := by decide +kernel
theorem dL_seen_80 : decode cL_seen 80 = .ok (.imul, 1) := by decide +kernel
theorem dL_seen_81 : decode cL_seen 81 = .ok (.iadd, 1) := by decide +kernel
theorem dL_seen_82 : decode cL_seen 82 = .ok (.istore_n 3, 1) := by decide +kernel
theorem dL_seen_83 : decode cL_seen 83 = .ok (.aload_n 1, 1) := by decide +kernel
theorem dL_seen_84 : decode cL_seen 84 = .ok (.iload_n 3, 1) := by decide +kernel
theorem dL_seen_85 : decode cL_seen 85 = .ok (.aload_n 0, 1) := by decide +kernel
theorem dL_seen_86 : decode cL_seen 86 = .ok (.iload_n 2, 1) := by decide +kernel
theorem dL_seen_87 : decode cL_seen 87 = .ok (.invokevirtual 211, 3) := by decide +kernel
theorem u_1424 : Cond.methodLink RL 211 yX9_phasesOf ∈ UW := uw 1424 (by decide +kernel) rfl
theorem u_1425 : Cond.instanceMethod yX9_phasesOf ∈ UW := uw 1425 (by decide +kernel) rfl
theorem u_1426 : Cond.selects RX9 yX9_phasesOf yX9_phasesOf ∈ UW := uw 1426 (by decide +kernel) rfl
theorem u_1427 : Cond.code yX9_phasesOf cX9_phasesOf 2 (some .int) ∈ UW := uw 1427 (by decide +kernel) rfl
theorem g_L_211 : GoodIn UW (wsV RL 211 RX9 yX9_phasesOf (wsU yX9_phasesOf cX9_phasesOf 2 (some .int))) := gV u_1424 u_1425 u_1426 u_21 u_1427
theorem hdv_X9_phasesOf : yX9_phasesOf.cls = RX9 ∧ yX9_phasesOf.cls ≠ "java/lang/invoke/MethodHandle" ∧ yX9_phasesOf.cls ≠ "java/lang/invoke/VarHandle" ∧ (parseMethodDescriptor yX9_phasesOf.desc).map (fun d => d.parameters.length) = some 1 := by decide +kernel
theorem dL_seen_90 : decode cL_seen 90 = .ok (.iastore, 1) := by decide +kernel
theorem dL_seen_91 : decode cL_seen 91 = .ok (.aload_n 1, 1) := by decide +kernel
theorem dL_seen_92 : decode cL_seen 92 = .ok (.iload_n 3, 1) := by decide +kernel
theorem dL_seen_93 : decode cL_seen 93 = .ok (.iconst 1, 1) := by decide +kernel
theorem dL_seen_94 : decode cL_seen 94 = .ok (.iadd, 1) := by decide +kernel
theorem dL_seen_95 : decode cL_seen 95 = .ok (.aload_n 0, 1) := by decide +kernel
theorem dL_seen_96 : decode cL_seen 96 = .ok (.iload_n 2, 1) := by decide +kernel
theorem dL_seen_97 : decode cL_seen 97 = .ok (.invokevirtual 214, 3) := by decide +kernel
theorem u_1432 : Cond.methodLink RL 214 yX9_keyOf ∈ UW := uw 1432 (by decide +kernel) rfl
theorem u_1433 : Cond.instanceMethod yX9_keyOf ∈ UW := uw 1433 (by decide +kernel) rfl
theorem u_1434 : Cond.selects RX9 yX9_keyOf yX9_keyOf ∈ UW := uw 1434 (by decide +kernel) rfl
theorem u_1435 : Cond.code yX9_keyOf cX9_keyOf 2 (some .int) ∈ UW := uw 1435 (by decide +kernel) rfl
theorem g_L_214 : GoodIn UW (wsV RL 214 RX9 yX9_keyOf (wsU yX9_keyOf cX9_keyOf 2 (some .int))) := gV u_1432 u_1433 u_1434 u_21 u_1435
theorem hdv_X9_keyOf : yX9_keyOf.cls = RX9 ∧ yX9_keyOf.cls ≠ "java/lang/invoke/MethodHandle" ∧ yX9_keyOf.cls ≠ "java/lang/invoke/VarHandle" ∧ (parseMethodDescriptor yX9_keyOf.desc).map (fun d => d.parameters.length) = some 1 := by decide +kernel
theorem dL_seen_100 : decode cL_seen 100 = .ok (.iastore, 1) := by decide +kernel
theorem dL_seen_101 : decode cL_seen 101 = .ok (.aload_n 1, 1) := by decide +kernel
theorem dL_seen_102 : decode cL_seen 102 = .ok (.iload_n 3, 1) := by decide +kernel
theorem dL_seen_103 : decode cL_seen 103 = .ok (.iconst 2, 1) := by decide +kernel
theorem dL_seen_104 : decode cL_seen 104 = .ok (.iadd, 1) := by decide +kernel
theorem dL_seen_105 : decode cL_seen 105 = .ok (.aload_n 0, 1) := by decide +kernel
theorem dL_seen_106 : decode cL_seen 106 = .ok (.iload_n 2, 1) := by decide +kernel
theorem dL_seen_107 : decode cL_seen 107 = .ok (.invokevirtual 217, 3) := by decide +kernel
theorem u_1436 : Cond.methodLink RL 217 yX9_hourCount ∈ UW := uw 1436 (by decide +kernel) rfl
theorem u_1437 : Cond.instanceMethod yX9_hourCount ∈ UW := uw 1437 (by decide +kernel) rfl
theorem u_1438 : Cond.selects RX9 yX9_hourCount yX9_hourCount ∈ UW := uw 1438 (by decide +kernel) rfl
theorem u_1439 : Cond.code yX9_hourCount cX9_hourCount 2 (some .int) ∈ UW := uw 1439 (by decide +kernel) rfl
theorem g_L_217 : GoodIn UW (wsV RL 217 RX9 yX9_hourCount (wsU yX9_hourCount cX9_hourCount 2 (some .int))) := gV u_1436 u_1437 u_1438 u_21 u_1439
theorem hdv_X9_hourCount : yX9_hourCount.cls = RX9 ∧ yX9_hourCount.cls ≠ "java/lang/invoke/MethodHandle" ∧ yX9_hourCount.cls ≠ "java/lang/invoke/VarHandle" ∧ (parseMethodDescriptor yX9_hourCount.desc).map (fun d => d.parameters.length) = some 1 := by decide +kernel
theorem dL_seen_110 : decode cL_seen 110 = .ok (.iastore, 1) := by decide +kernel
theorem dL_seen_111 : decode cL_seen 111 = .ok (.aload_n 1, 1) := by decide +kernel
theorem dL_seen_112 : decode cL_seen 112 = .ok (.iload_n 3, 1) := by decide +kernel
theorem dL_seen_113 : decode cL_seen 113 = .ok (.iconst 3, 1) := by decide +kernel
theorem dL_seen_114 : decode cL_seen 114 = .ok (.iadd, 1) := by decide +kernel
theorem dL_seen_115 : decode cL_seen 115 = .ok (.aload_n 0, 1) := by decide +kernel
theorem dL_seen_116 : decode cL_seen 116 = .ok (.iload_n 2, 1) := by decide +kernel
theorem dL_seen_117 : decode cL_seen 117 = .ok (.invokevirtual 220, 3) := by decide +kernel
theorem u_1441 : Cond.methodLink RL 220 yX9_isUnlocked ∈ UW := uw 1441 (by decide +kernel) rfl
theorem u_1442 : Cond.instanceMethod yX9_isUnlocked ∈ UW := uw 1442 (by decide +kernel) rfl
theorem u_1443 : Cond.selects RX9 yX9_isUnlocked yX9_isUnlocked ∈ UW := uw 1443 (by decide +kernel) rfl
theorem u_1444 : Cond.code yX9_isUnlocked cX9_isUnlocked 2 (some .boolean) ∈ UW := uw 1444 (by decide +kernel) rfl
theorem g_L_220 : GoodIn UW (wsV RL 220 RX9 yX9_isUnlocked (wsU yX9_isUnlocked cX9_isUnlocked 2 (some .boolean))) := gV u_1441 u_1442 u_1443 u_21 u_1444
theorem hdv_X9_isUnlocked : yX9_isUnlocked.cls = RX9 ∧ yX9_isUnlocked.cls ≠ "java/lang/invoke/MethodHandle" ∧ yX9_isUnlocked.cls ≠ "java/lang/invoke/VarHandle" ∧ (parseMethodDescriptor yX9_isUnlocked.desc).map (fun d => d.parameters.length) = some 1 := by decide +kernel
theorem dL_seen_120 : decode cL_seen 120 = .ok (.ifCond .eq 7, 3) := by decide +kernel
theorem dL_seen_127 : decode cL_seen 127 = .ok (.iconst 0, 1) := by decide +kernel
theorem dL_seen_128 : decode cL_seen 128 = .ok (.iastore, 1) := by decide +kernel
theorem dL_seen_129 : decode cL_seen 129 = .ok (.iconst 0, 1) := by decide +kernel
theorem dL_seen_130 : decode cL_seen 130 = .ok (.istore 4, 2) := by decide +kernel
theorem dL_seen_132 : decode cL_seen 132 = .ok (.iload 4, 2) := by decide +kernel
theorem dL_seen_134 : decode cL_seen 134 = .ok (.bipush 8, 2) := by decide +kernel
theorem dL_seen_136 : decode cL_seen 136 = .ok (.if_icmp .ge 40, 3) := by decide +kernel
theorem dL_seen_139 : decode cL_seen 139 = .ok (.aload_n 1, 1) := by decide +kernel
theorem dL_seen_140 : decode cL_seen 140 = .ok (.iload_n 3, 1) := by decide +kernel
theorem dL_seen_141 : decode cL_seen 141 = .ok (.iconst 4, 1) := by decide +kernel
theorem dL_seen_142 : decode cL_seen 142 = .ok (.iadd, 1) := by decide +kernel
theorem dL_seen_143 : decode cL_seen 143 = .ok (.iload 4, 2) := by decide +kernel
theorem dL_seen_145 : decode cL_seen 145 = .ok (.iadd, 1) := by decide +kernel
theorem dL_seen_146 : decode cL_seen 146 = .ok (.aload_n 0, 1) := by decide +kernel
theorem dL_seen_147 : decode cL_seen 147 = .ok (.iload_n 2, 1) := by decide +kernel
theorem dL_seen_148 : decode cL_seen 148 = .ok (.iload 4, 2) := by decide +kernel
theorem dL_seen_150 : decode cL_seen 150 = .ok (.invokevirtual 224, 3) := by decide +kernel
theorem u_1445 : Cond.methodLink RL 224 yX9_entriesOn ∈ UW := uw 1445 (by decide +kernel) rfl
theorem u_1446 : Cond.instanceMethod yX9_entriesOn ∈ UW := uw 1446 (by decide +kernel) rfl
theorem u_1447 : Cond.selects RX9 yX9_entriesOn yX9_entriesOn ∈ UW := uw 1447 (by decide +kernel) rfl
theorem u_1448 : Cond.code yX9_entriesOn cX9_entriesOn 3 (some .int) ∈ UW := uw 1448 (by decide +kernel) rfl
theorem g_L_224 : GoodIn UW (wsV RL 224 RX9 yX9_entriesOn (wsU yX9_entriesOn cX9_entriesOn 3 (some .int))) := gV u_1445 u_1446 u_1447 u_21 u_1448
theorem hdv_X9_entriesOn : yX9_entriesOn.cls = RX9 ∧ yX9_entriesOn.cls ≠ "java/lang/invoke/MethodHandle" ∧ yX9_entriesOn.cls ≠ "java/lang/invoke/VarHandle" ∧ (parseMethodDescriptor yX9_entriesOn.desc).map (fun d => d.parameters.length) = some 2 := by decide +kernel
theorem dL_seen_153 : decode cL_seen 153 = .ok (.iastore, 1) := by decide +kernel
theorem dL_seen_154 : decode cL_seen 154 = .ok (.aload_n 1, 1) := by decide +kernel
theorem dL_seen_155 : decode cL_seen 155 = .ok (.iload_n 3, 1) := by decide +kernel
theorem dL_seen_156 : decode cL_seen 156 = .ok (.bipush 12, 2) := by decide +kernel
theorem dL_seen_158 : decode cL_seen 158 = .ok (.iadd, 1) := by decide +kernel
theorem dL_seen_159 : decode cL_seen 159 = .ok (.iload 4, 2) := by decide +kernel
theorem dL_seen_161 : decode cL_seen 161 = .ok (.iadd, 1) := by decide +kernel
theorem dL_seen_162 : decode cL_seen 162 = .ok (.aload_n 0, 1) := by decide +kernel
theorem dL_seen_163 : decode cL_seen 163 = .ok (.iload_n 2, 1) := by decide +kernel
theorem dL_seen_164 : decode cL_seen 164 = .ok (.iload 4, 2) := by decide +kernel
theorem dL_seen_166 : decode cL_seen 166 = .ok (.invokevirtual 227, 3) := by decide +kernel
theorem u_1453 : Cond.methodLink RL 227 yX9_refusalsOn ∈ UW := uw 1453 (by decide +kernel) rfl
theorem u_1454 : Cond.instanceMethod yX9_refusalsOn ∈ UW := uw 1454 (by decide +kernel) rfl
theorem u_1455 : Cond.selects RX9 yX9_refusalsOn yX9_refusalsOn ∈ UW := uw 1455 (by decide +kernel) rfl
theorem u_1456 : Cond.code yX9_refusalsOn cX9_refusalsOn 3 (some .int) ∈ UW := uw 1456 (by decide +kernel) rfl
theorem g_L_227 : GoodIn UW (wsV RL 227 RX9 yX9_refusalsOn (wsU yX9_refusalsOn cX9_refusalsOn 3 (some .int))) := gV u_1453 u_1454 u_1455 u_21 u_1456
theorem hdv_X9_refusalsOn : yX9_refusalsOn.cls = RX9 ∧ yX9_refusalsOn.cls ≠ "java/lang/invoke/MethodHandle" ∧ yX9_refusalsOn.cls ≠ "java/lang/invoke/VarHandle" ∧ (parseMethodDescriptor yX9_refusalsOn.desc).map (fun d => d.parameters.length) = some 2 := by decide +kernel
theorem dL_seen_169 : decode cL_seen 169 = .ok (.iastore, 1) := by decide +kernel
theorem dL_seen_170 : decode cL_seen 170 = .ok (.iinc 4 1, 3) := by decide +kernel
theorem dL_seen_173 : decode cL_seen 173 = .ok (.goto (-41), 3) := by decide +kernel
theorem dL_seen_176 : decode cL_seen 176 = .ok (.iinc 2 1, 3) := by decide +kernel
theorem dL_seen_179 : decode cL_seen 179 = .ok (.goto (-112), 3) := by decide +kernel
theorem dL_seen_123 : decode cL_seen 123 = .ok (.iconst 1, 1) := by decide +kernel
theorem dL_seen_124 : decode cL_seen 124 = .ok (.goto 4, 3) := by decide +kernel
theorem dL_seen_182 : decode cL_seen 182 = .ok (.iconst 0, 1) := by decide +kernel
theorem dL_seen_183 : decode cL_seen 183 = .ok (.istore_n 2, 1) := by decide +kernel
theorem dL_seen_184 : decode cL_seen 184 = .ok (.iload_n 2, 1) := by decide +kernel
theorem dL_seen_185 : decode cL_seen 185 = .ok (.aload_n 0, 1) := by decide +kernel
theorem dL_seen_186 : decode cL_seen 186 = .ok (.invokevirtual 205, 3) := by decide +kernel
theorem dL_seen_189 : decode cL_seen 189 = .ok (.if_icmp .ge 65, 3) := by decide +kernel
theorem dL_seen_192 : decode cL_seen 192 = .ok (.aload_n 1, 1) := by decide +kernel
theorem dL_seen_193 : decode cL_seen 193 = .ok (.sipush 170, 3) := by decide +kernel
theorem dL_seen_196 : decode cL_seen 196 = .ok (.iconst 2, 1) := by decide +kernel
theorem dL_seen_197 : decode cL_seen 197 = .ok (.iload_n 2, 1) := by decide +kernel
theorem dL_seen_198 : decode cL_seen 198 = .ok (.imul, 1) := by decide +kernel
theorem dL_seen_199 : decode cL_seen 199 = .ok (.iadd, 1) := by decide +kernel
theorem dL_seen_200 : decode cL_seen 200 = .ok (.aload_n 0, 1) := by decide +kernel
theorem dL_seen_201 : decode cL_seen 201 = .ok (.iload_n 2, 1) := by decide +kernel
theorem dL_seen_202 : decode cL_seen 202 = .ok (.invokevirtual 230, 3) := by decide +kernel
theorem u_1461 : Cond.methodLink RL 230 yX9_entriesOf ∈ UW := uw 1461 (by decide +kernel) rfl
theorem u_1462 : Cond.instanceMethod yX9_entriesOf ∈ UW := uw 1462 (by decide +kernel) rfl
theorem u_1463 : Cond.selects RX9 yX9_entriesOf yX9_entriesOf ∈ UW := uw 1463 (by decide +kernel) rfl
theorem u_1464 : Cond.code yX9_entriesOf cX9_entriesOf 2 (some .int) ∈ UW := uw 1464 (by decide +kernel) rfl
theorem g_L_230 : GoodIn UW (wsV RL 230 RX9 yX9_entriesOf (wsU yX9_entriesOf cX9_entriesOf 2 (some .int))) := gV u_1461 u_1462 u_1463 u_21 u_1464
theorem hdv_X9_entriesOf : yX9_entriesOf.cls = RX9 ∧ yX9_entriesOf.cls ≠ "java/lang/invoke/MethodHandle" ∧ yX9_entriesOf.cls ≠ "java/lang/invoke/VarHandle" ∧ (parseMethodDescriptor yX9_entriesOf.desc).map (fun d => d.parameters.length) = some 1 := by decide +kernel
theorem dL_seen_205 : decode cL_seen 205 = .ok (.iastore, 1) := by decide +kernel
theorem dL_seen_206 : decode cL_seen 206 = .ok (.iconst 0, 1) := by decide +kernel
theorem dL_seen_207 : decode cL_seen 207 = .ok (.istore_n 3, 1) := by decide +kernel
theorem dL_seen_208 : decode cL_seen 208 = .ok (.iload_n 3, 1) := by decide +kernel
theorem dL_seen_209 : decode cL_seen 209 = .ok (.bipush 8, 2) := by decide +kernel
theorem dL_seen_211 : decode cL_seen 211 = .ok (.if_icmp .ge 37, 3) := by decide +kernel
theorem dL_seen_214 : decode cL_seen 214 = .ok (.aload_n 1, 1) := by decide +kernel
theorem dL_seen_215 : decode cL_seen 215 = .ok (.sipush 171, 3) := by decide +kernel
theorem dL_seen_218 : decode cL_seen 218 = .ok (.iconst 2, 1) := by decide +kernel
theorem dL_seen_219 : decode cL_seen 219 = .ok (.iload_n 2, 1) := by decide +kernel
theorem dL_seen_220 : decode cL_seen 220 = .ok (.imul, 1) := by decide +kernel
theorem dL_seen_221 : decode cL_seen 221 = .ok (.iadd, 1) := by decide +kernel
theorem dL_seen_222 : decode cL_seen 222 = .ok (.dup2, 1) := by decide +kernel
theorem dL_seen_223 : decode cL_seen 223 = .ok (.iaload, 1) := by decide +kernel
theorem dL_seen_224 : decode cL_seen 224 = .ok (.aload_n 0, 1) := by decide +kernel
theorem dL_seen_225 : decode cL_seen 225 = .ok (.iload_n 2, 1) := by decide +kernel
theorem dL_seen_226 : decode cL_seen 226 = .ok (.iload_n 3, 1) := by decide +kernel
theorem dL_seen_227 : decode cL_seen 227 = .ok (.invokevirtual 233, 3) := by decide +kernel
theorem u_1469 : Cond.methodLink RL 233 yX9_hasKey ∈ UW := uw 1469 (by decide +kernel) rfl
theorem u_1470 : Cond.instanceMethod yX9_hasKey ∈ UW := uw 1470 (by decide +kernel) rfl
theorem u_1471 : Cond.selects RX9 yX9_hasKey yX9_hasKey ∈ UW := uw 1471 (by decide +kernel) rfl
theorem u_1472 : Cond.code yX9_hasKey cX9_hasKey 3 (some .boolean) ∈ UW := uw 1472 (by decide +kernel) rfl
theorem g_L_233 : GoodIn UW (wsV RL 233 RX9 yX9_hasKey (wsU yX9_hasKey cX9_hasKey 3 (some .boolean))) := gV u_1469 u_1470 u_1471 u_21 u_1472
theorem hdv_X9_hasKey : yX9_hasKey.cls = RX9 ∧ yX9_hasKey.cls ≠ "java/lang/invoke/MethodHandle" ∧ yX9_hasKey.cls ≠ "java/lang/invoke/VarHandle" ∧ (parseMethodDescriptor yX9_hasKey.desc).map (fun d => d.parameters.length) = some 2 := by decide +kernel
theorem dL_seen_230 : decode cL_seen 230 = .ok (.ifCond .eq 9, 3) := by decide +kernel
theorem dL_seen_239 : decode cL_seen 239 = .ok (.iconst 0, 1) := by decide +kernel
theorem dL_seen_240 : decode cL_seen 240 = .ok (.iadd, 1) := by decide +kernel
theorem dL_seen_241 : decode cL_seen 241 = .ok (.iastore, 1) := by decide +kernel
theorem dL_seen_242 : decode cL_seen 242 = .ok (.iinc 3 1, 3) := by decide +kernel
theorem dL_seen_245 : decode cL_seen 245 = .ok (.goto (-37), 3) := by decide +kernel
theorem dL_seen_233 : decode cL_seen 233 = .ok (.iconst 1, 1) := by decide +kernel
theorem dL_seen_234 : decode cL_seen 234 = .ok (.iload_n 3, 1) := by decide +kernel
theorem dL_seen_235 : decode cL_seen 235 = .ok (.ishl, 1) := by decide +kernel
theorem dL_seen_236 : decode cL_seen 236 = .ok (.goto 4, 3) := by decide +kernel
theorem dL_seen_248 : decode cL_seen 248 = .ok (.iinc 2 1, 3) := by decide +kernel
theorem dL_seen_251 : decode cL_seen 251 = .ok (.goto (-67), 3) := by decide +kernel
theorem dL_seen_254 : decode cL_seen 254 = .ok (.iconst 0, 1) := by decide +kernel
theorem dL_seen_255 : decode cL_seen 255 = .ok (.istore_n 2, 1) := by decide +kernel
theorem dL_seen_256 : decode cL_seen 256 = .ok (.iload_n 2, 1) := by decide +kernel
theorem dL_seen_257 : decode cL_seen 257 = .ok (.aload_n 0, 1) := by decide +kernel
theorem dL_seen_258 : decode cL_seen 258 = .ok (.invokevirtual 152, 3) := by decide +kernel
theorem dL_seen_261 : decode cL_seen 261 = .ok (.if_icmp .ge 37, 3) := by decide +kernel
theorem dL_seen_264 : decode cL_seen 264 = .ok (.aload_n 1, 1) := by decide +kernel
theorem dL_seen_265 : decode cL_seen 265 = .ok (.sipush 184, 3) := by decide +kernel
theorem dL_seen_268 : decode cL_seen 268 = .ok (.iconst 2, 1) := by decide +kernel
theorem dL_seen_269 : decode cL_seen 269 = .ok (.iload_n 2, 1) := by decide +kernel
theorem dL_seen_270 : decode cL_seen 270 = .ok (.imul, 1) := by decide +kernel
theorem dL_seen_271 : decode cL_seen 271 = .ok (.iadd, 1) := by decide +kernel
theorem dL_seen_272 : decode cL_seen 272 = .ok (.aload_n 0, 1) := by decide +kernel
theorem dL_seen_273 : decode cL_seen 273 = .ok (.iload_n 2, 1) := by decide +kernel
theorem dL_seen_274 : decode cL_seen 274 = .ok (.invokevirtual 41, 3) := by decide +kernel
theorem dL_seen_277 : decode cL_seen 277 = .ok (.iastore, 1) := by decide +kernel
theorem dL_seen_278 : decode cL_seen 278 = .ok (.aload_n 1, 1) := by decide +kernel
theorem dL_seen_279 : decode cL_seen 279 = .ok (.sipush 185, 3) := by decide +kernel
theorem dL_seen_282 : decode cL_seen 282 = .ok (.iconst 2, 1) := by decide +kernel
theorem dL_seen_283 : decode cL_seen 283 = .ok (.iload_n 2, 1) := by decide +kernel
theorem dL_seen_284 : decode cL_seen 284 = .ok (.imul, 1) := by decide +kernel
theorem dL_seen_285 : decode cL_seen 285 = .ok (.iadd, 1) := by decide +kernel
theorem dL_seen_286 : decode cL_seen 286 = .ok (.aload_n 0, 1) := by decide +kernel
theorem dL_seen_287 : decode cL_seen 287 = .ok (.iload_n 2, 1) := by decide +kernel
theorem dL_seen_288 : decode cL_seen 288 = .ok (.invokevirtual 35, 3) := by decide +kernel
theorem dL_seen_291 : decode cL_seen 291 = .ok (.iastore, 1) := by decide +kernel
theorem dL_seen_292 : decode cL_seen 292 = .ok (.iinc 2 1, 3) := by decide +kernel
theorem dL_seen_295 : decode cL_seen 295 = .ok (.goto (-39), 3) := by decide +kernel
theorem dL_seen_298 : decode cL_seen 298 = .ok (.iconst 0, 1) := by decide +kernel
theorem dL_seen_299 : decode cL_seen 299 = .ok (.istore_n 2, 1) := by decide +kernel
theorem dL_seen_300 : decode cL_seen 300 = .ok (.iload_n 2, 1) := by decide +kernel
theorem dL_seen_301 : decode cL_seen 301 = .ok (.bipush 10, 2) := by decide +kernel
theorem dL_seen_303 : decode cL_seen 303 = .ok (.if_icmp .ge 61, 3) := by decide +kernel
theorem dL_seen_306 : decode cL_seen 306 = .ok (.aload_n 0, 1) := by decide +kernel
theorem dL_seen_307 : decode cL_seen 307 = .ok (.iload_n 2, 1) := by decide +kernel
theorem dL_seen_308 : decode cL_seen 308 = .ok (.invokestatic 236, 3) := by decide +kernel
theorem gh_L_236_c : Cond.codeWith yL_loggedResult cL_loggedResult 3 (some .int) [(0, 5, 6, 39)] ∈ UW := uw 1476 (by decide +kernel) rfl
theorem u_1474 : Cond.methodLink RL 236 yL_loggedResult ∈ UW := uw 1474 (by decide +kernel) rfl
theorem u_1475 : Cond.static yL_loggedResult ∈ UW := uw 1475 (by decide +kernel) rfl
theorem gh_L_236 : GoodIn UW (va_wsS RL 236 yL_loggedResult (Cond.codeWith yL_loggedResult cL_loggedResult 3 (some .int) [(0, 5, 6, 39)] :: UW)) := gSH u_1474 u_1475 u_20 gh_L_236_c
theorem hds_L_loggedResult : yL_loggedResult.cls ≠ "java/lang/invoke/MethodHandle" ∧ yL_loggedResult.cls ≠ "java/lang/invoke/VarHandle" ∧ (parseMethodDescriptor yL_loggedResult.desc).map (fun d => d.parameters.length) = some 2 := by decide +kernel
theorem dL_seen_311 : decode cL_seen 311 = .ok (.ifCond .lt 53, 3) := by decide +kernel
theorem dL_seen_314 : decode cL_seen 314 = .ok (.aload_n 1, 1) := by decide +kernel
theorem dL_seen_315 : decode cL_seen 315 = .ok (.sipush 210, 3) := by decide +kernel
theorem dL_seen_318 : decode cL_seen 318 = .ok (.iconst 3, 1) := by decide +kernel
theorem dL_seen_319 : decode cL_seen 319 = .ok (.iload_n 2, 1) := by decide +kernel
theorem dL_seen_320 : decode cL_seen 320 = .ok (.imul, 1) := by decide +kernel
theorem dL_seen_321 : decode cL_seen 321 = .ok (.iadd, 1) := by decide +kernel
theorem dL_seen_322 : decode cL_seen 322 = .ok (.aload_n 0, 1) := by decide +kernel
theorem dL_seen_323 : decode cL_seen 323 = .ok (.iload_n 2, 1) := by decide +kernel
theorem dL_seen_324 : decode cL_seen 324 = .ok (.invokevirtual 238, 3) := by decide +kernel
theorem u_1493 : Cond.methodLink RL 238 yX9_loggedPerson ∈ UW := uw 1493 (by decide +kernel) rfl
theorem u_1494 : Cond.instanceMethod yX9_loggedPerson ∈ UW := uw 1494 (by decide +kernel) rfl
theorem u_1495 : Cond.selects RX9 yX9_loggedPerson yX9_loggedPerson ∈ UW := uw 1495 (by decide +kernel) rfl
theorem u_1496 : Cond.code yX9_loggedPerson cX9_loggedPerson 2 (some .int) ∈ UW := uw 1496 (by decide +kernel) rfl
theorem g_L_238 : GoodIn UW (wsV RL 238 RX9 yX9_loggedPerson (wsU yX9_loggedPerson cX9_loggedPerson 2 (some .int))) := gV u_1493 u_1494 u_1495 u_21 u_1496
theorem hdv_X9_loggedPerson : yX9_loggedPerson.cls = RX9 ∧ yX9_loggedPerson.cls ≠ "java/lang/invoke/MethodHandle" ∧ yX9_loggedPerson.cls ≠ "java/lang/invoke/VarHandle" ∧ (parseMethodDescriptor yX9_loggedPerson.desc).map (fun d => d.parameters.length) = some 1 := by decide +kernel
theorem dL_seen_327 : decode cL_seen 327 = .ok (.iastore, 1) := by decide +kernel
theorem dL_seen_328 : decode cL_seen 328 = .ok (.aload_n 1, 1) := by decide +kernel
theorem dL_seen_329 : decode cL_seen 329 = .ok (.sipush 211, 3) := by decide +kernel
theorem dL_seen_332 : decode cL_seen 332 = .ok (.iconst 3, 1) := by decide +kernel
theorem dL_seen_333 : decode cL_seen 333 = .ok (.iload_n 2, 1) := by decide +kernel
theorem dL_seen_334 : decode cL_seen 334 = .ok (.imul, 1) := by decide +kernel
theorem dL_seen_335 : decode cL_seen 335 = .ok (.iadd, 1) := by decide +kernel
theorem dL_seen_336 : decode cL_seen 336 = .ok (.aload_n 0, 1) := by decide +kernel
theorem dL_seen_337 : decode cL_seen 337 = .ok (.iload_n 2, 1) := by decide +kernel
theorem dL_seen_338 : decode cL_seen 338 = .ok (.invokevirtual 241, 3) := by decide +kernel
theorem u_1501 : Cond.methodLink RL 241 yX9_loggedDoor ∈ UW := uw 1501 (by decide +kernel) rfl
theorem u_1502 : Cond.instanceMethod yX9_loggedDoor ∈ UW := uw 1502 (by decide +kernel) rfl
theorem u_1503 : Cond.selects RX9 yX9_loggedDoor yX9_loggedDoor ∈ UW := uw 1503 (by decide +kernel) rfl
theorem u_1504 : Cond.code yX9_loggedDoor cX9_loggedDoor 2 (some .int) ∈ UW := uw 1504 (by decide +kernel) rfl
theorem g_L_241 : GoodIn UW (wsV RL 241 RX9 yX9_loggedDoor (wsU yX9_loggedDoor cX9_loggedDoor 2 (some .int))) := gV u_1501 u_1502 u_1503 u_21 u_1504
theorem hdv_X9_loggedDoor : yX9_loggedDoor.cls = RX9 ∧ yX9_loggedDoor.cls ≠ "java/lang/invoke/MethodHandle" ∧ yX9_loggedDoor.cls ≠ "java/lang/invoke/VarHandle" ∧ (parseMethodDescriptor yX9_loggedDoor.desc).map (fun d => d.parameters.length) = some 1 := by decide +kernel
theorem dL_seen_341 : decode cL_seen 341 = .ok (.iastore, 1) := by decide +kernel
theorem dL_seen_342 : decode cL_seen 342 = .ok (.aload_n 1, 1) := by decide +kernel
theorem dL_seen_343 : decode cL_seen 343 = .ok (.sipush 212, 3) := by decide +kernel
theorem dL_seen_346 : decode cL_seen 346 = .ok (.iconst 3, 1) := by decide +kernel
theorem dL_seen_347 : decode cL_seen 347 = .ok (.iload_n 2, 1) := by decide +kernel
theorem dL_seen_348 : decode cL_seen 348 = .ok (.imul, 1) := by decide +kernel
theorem dL_seen_349 : decode cL_seen 349 = .ok (.iadd, 1) := by decide +kernel
theorem dL_seen_350 : decode cL_seen 350 = .ok (.iconst 1, 1) := by decide +kernel
theorem dL_seen_351 : decode cL_seen 351 = .ok (.aload_n 0, 1) := by decide +kernel
theorem dL_seen_352 : decode cL_seen 352 = .ok (.iload_n 2, 1) := by decide +kernel
theorem dL_seen_353 : decode cL_seen 353 = .ok (.invokevirtual 79, 3) := by decide +kernel
theorem dL_seen_356 : decode cL_seen 356 = .ok (.iadd, 1) := by decide +kernel
theorem dL_seen_357 : decode cL_seen 357 = .ok (.iastore, 1) := by decide +kernel
theorem dL_seen_358 : decode cL_seen 358 = .ok (.iinc 2 1, 3) := by decide +kernel
theorem dL_seen_361 : decode cL_seen 361 = .ok (.goto (-61), 3) := by decide +kernel
theorem dL_seen_364 : decode cL_seen 364 = .ok (.iconst 0, 1) := by decide +kernel
theorem dL_seen_365 : decode cL_seen 365 = .ok (.istore_n 2, 1) := by decide +kernel
theorem dL_seen_366 : decode cL_seen 366 = .ok (.iload_n 2, 1) := by decide +kernel
theorem dL_seen_367 : decode cL_seen 367 = .ok (.bipush 16, 2) := by decide +kernel
theorem dL_seen_369 : decode cL_seen 369 = .ok (.if_icmp .ge 23, 3) := by decide +kernel
theorem dL_seen_372 : decode cL_seen 372 = .ok (.aload_n 1, 1) := by decide +kernel
theorem dL_seen_373 : decode cL_seen 373 = .ok (.sipush 242, 3) := by decide +kernel
theorem dL_seen_376 : decode cL_seen 376 = .ok (.iload_n 2, 1) := by decide +kernel
theorem dL_seen_377 : decode cL_seen 377 = .ok (.iadd, 1) := by decide +kernel
theorem dL_seen_378 : decode cL_seen 378 = .ok (.aload_n 0, 1) := by decide +kernel
theorem dL_seen_379 : decode cL_seen 379 = .ok (.iconst 2, 1) := by decide +kernel
theorem dL_seen_380 : decode cL_seen 380 = .ok (.iload_n 2, 1) := by decide +kernel
theorem dL_seen_381 : decode cL_seen 381 = .ok (.imul, 1) := by decide +kernel
theorem dL_seen_382 : decode cL_seen 382 = .ok (.invokevirtual 244, 3) := by decide +kernel
theorem u_1509 : Cond.methodLink RL 244 yX9_phaseOn ∈ UW := uw 1509 (by decide +kernel) rfl
theorem u_1510 : Cond.instanceMethod yX9_phaseOn ∈ UW := uw 1510 (by decide +kernel) rfl
theorem u_1511 : Cond.selects RX9 yX9_phaseOn yX9_phaseOn ∈ UW := uw 1511 (by decide +kernel) rfl
theorem u_1512 : Cond.code yX9_phaseOn cX9_phaseOn 2 (some .int) ∈ UW := uw 1512 (by decide +kernel) rfl
theorem g_L_244 : GoodIn UW (wsV RL 244 RX9 yX9_phaseOn (wsU yX9_phaseOn cX9_phaseOn 2 (some .int))) := gV u_1509 u_1510 u_1511 u_21 u_1512
theorem hdv_X9_phaseOn : yX9_phaseOn.cls = RX9 ∧ yX9_phaseOn.cls ≠ "java/lang/invoke/MethodHandle" ∧ yX9_phaseOn.cls ≠ "java/lang/invoke/VarHandle" ∧ (parseMethodDescriptor yX9_phaseOn.desc).map (fun d => d.parameters.length) = some 1 := by decide +kernel
theorem dL_seen_385 : decode cL_seen 385 = .ok (.iastore, 1) := by decide +kernel
theorem dL_seen_386 : decode cL_seen 386 = .ok (.iinc 2 1, 3) := by decide +kernel
theorem dL_seen_389 : decode cL_seen 389 = .ok (.goto (-23), 3) := by decide +kernel
theorem dL_seen_392 : decode cL_seen 392 = .ok (.aload_n 1, 1) := by decide +kernel
theorem dL_seen_393 : decode cL_seen 393 = .ok (.areturn, 1) := by decide +kernel
set_option maxHeartbeats 40000000 in
set_option maxRecDepth 100000 in
set_option linter.constructorNameAsVariable false in
theorem c_L_seen (l : Launch) (hlf : l.stackTraces = false) (G : GG) (qh0 : Nat) (q_snapshot : Nat) (q_history : Nat) (q_program : Nat) (q_notice : Nat) (va : Nat → Nat) (sz : Nat) (q : McV) (v : StV) (hok : ok_L_seen q v) : wMet l yL_seen cL_seen 5 (some (.array .int)) 11 524 3398 G (fl [[(qh0, .inr (11, [.ref (va 0), .ref q_snapshot, .int q.1, .ref q_history, .ref q_program, .ref q_notice, .int q.2.1, .int q.2.2]))], wSt G va v]) [.ref qh0] sz (fun u : Nat × Nat × (Nat → Int32) => some (.ref u.1)) (fun u : Nat × Nat × (Nat → Int32) => u.2 = f_L_seen q v) (fun u : Nat × Nat × (Nat → Int32) => fl [[(qh0, .inr (11, [.ref (va 0), .ref q_snapshot, .int q.1, .ref q_history, .ref q_program, .ref q_notice, .int q.2.1, .int q.2.2]))], wSt G va v, [(u.1, .inl (G.2.1 0, u.2.1, .inl u.2.2))]]) := by
  refine w_start (by decide +kernel) (Nat.le_of_ble_eq_true rfl) ?_
  intro p e s m below meth c A hx hb hr hml hts hown hlk hin hP hD hA hK hST ls hl
  have hS : va_S A s.heap s.heap [] := va_S.rf
  have hown : s.vm.findClass RL = some m.cls := hown
  have hl : lv_has ls 5 [(0, .ref qh0)] := hl
  have hF : f_L_seen q v = (let r_11 : Int32 × (Nat → Int32) := (lp_L_seen_44 q v 6 (0 : Int32) (upd (upd (upd (upd (fun _ => 0) (0 : Int32).toNatClampNeg (((24 : Int32) * (f_X9_day q v)) + (f_X9_hour q v))) (1 : Int32).toNatClampNeg (f_X9_doorCount q v)) (2 : Int32).toNatClampNeg (f_X9_personCount q v)) (3 : Int32).toNatClampNeg (f_X9_exceptionCount q v))); (let r_44 : Int32 × (Nat → Int32) := (lp_L_seen_67 q v r_11 9 (0 : Int32) r_11.2); (let r_58 : Int32 × (Nat → Int32) := (lp_L_seen_184 q v r_11 r_44 7 (0 : Int32) r_44.2); (let r_67 : Int32 × (Nat → Int32) := (lp_L_seen_256 q v r_11 r_44 r_58 13 (0 : Int32) r_58.2); (let r_82 : Int32 × (Nat → Int32) := (lp_L_seen_300 q v r_11 r_44 r_58 r_67 11 (0 : Int32) r_67.2); (let r_87 : Int32 × (Nat → Int32) := (lp_L_seen_366 q v r_11 r_44 r_58 r_67 r_82 17 (0 : Int32) r_82.2); (260, r_87.2))))))) := rfl
  have hok : (okl_lp_L_seen_44 q v 6 (0 : Int32) (upd (upd (upd (upd (fun _ => 0) (0 : Int32).toNatClampNeg (((24 : Int32) * (f_X9_day q v)) + (f_X9_hour q v))) (1 : Int32).toNatClampNeg (f_X9_doorCount q v)) (2 : Int32).toNatClampNeg (f_X9_personCount q v)) (3 : Int32).toNatClampNeg (f_X9_exceptionCount q v)) ∧ (∀ r_11 : Int32 × (Nat → Int32), r_11 = (lp_L_seen_44 q v 6 (0 : Int32) (upd (upd (upd (upd (fun _ => 0) (0 : Int32).toNatClampNeg (((24 : Int32) * (f_X9_day q v)) + (f_X9_hour q v))) (1 : Int32).toNatClampNeg (f_X9_doorCount q v)) (2 : Int32).toNatClampNeg (f_X9_personCount q v)) (3 : Int32).toNatClampNeg (f_X9_exceptionCount q v))) → (okl_lp_L_seen_67 q v r_11 9 (0 : Int32) r_11.2 ∧ (∀ r_44 : Int32 × (Nat → Int32), r_44 = (lp_L_seen_67 q v r_11 9 (0 : Int32) r_11.2) → (okl_lp_L_seen_184 q v r_11 r_44 7 (0 : Int32) r_44.2 ∧ (∀ r_58 : Int32 × (Nat → Int32), r_58 = (lp_L_seen_184 q v r_11 r_44 7 (0 : Int32) r_44.2) → (okl_lp_L_seen_256 q v r_11 r_44 r_58 13 (0 : Int32) r_58.2 ∧ (∀ r_67 : Int32 × (Nat → Int32), r_67 = (lp_L_seen_256 q v r_11 r_44 r_58 13 (0 : Int32) r_58.2) → (okl_lp_L_seen_300 q v r_11 r_44 r_58 r_67 11 (0 : Int32) r_67.2 ∧ (∀ r_82 : Int32 × (Nat → Int32), r_82 = (lp_L_seen_300 q v r_11 r_44 r_58 r_67 11 (0 : Int32) r_67.2) → (okl_lp_L_seen_366 q v r_11 r_44 r_58 r_67 r_82 17 (0 : Int32) r_82.2 ∧ True))))))))))) := hok
  refine lv_sipush (v := (260 : Int32)) hx hb dL_seen_0 (by decide) ?_
  refine w_newI (N := 260) hx hb (hts _ u_958) hK hP hD hS hA (by decide) (by decide) (by decide) (Nat.le_of_ble_eq_true rfl) (Nat.le_of_ble_eq_true rfl) dL_seen_3 (fun q_1 H hP hD hS => ?_)
  have hP : va_P G.1 vwCl (fl [[(qh0, .inr (11, [.ref (va 0), .ref q_snapshot, .int q.1, .ref q_history, .ref q_program, .ref q_notice, .int q.2.1, .int q.2.2]))], wSt G va v, [cArr G q_1 260 (fun _ => 0)]]) H := hP
  have hD : va_D A (fl [[(qh0, .inr (11, [.ref (va 0), .ref q_snapshot, .int q.1, .ref q_history, .ref q_program, .ref q_notice, .int q.2.1, .int q.2.2]))], wSt G va v, [cArr G q_1 260 (fun _ => 0)]]) := hD
  refine lv_astore_n (lv' := [(1, .ref q_1), (0, .ref qh0)]) hx hb dL_seen_5 rfl hl (by decide) rfl (fun ls hl => ?_)
  refine lv_aload_n hx hb dL_seen_6 rfl (lv_at hl 0 rfl) ?_
  refine lv_iconst (v := (0 : Int32)) hx hb dL_seen_7 (by decide) ?_
  refine lv_bipush (v := (24 : Int32)) hx hb dL_seen_8 (by decide) ?_
  refine lv_aload_n hx hb dL_seen_10 rfl (lv_at hl 1 rfl) ?_
  refine r_V (own := RL) (v := (some (.int (f_X9_day q v)))) (st1 := [.int (f_X9_day q v), .int (24 : Int32), .int (0 : Int32), .ref q_1]) (As := []) (rest := [.int (24 : Int32), .int (0 : Int32), .ref q_1]) (c_X9_dayS l G qh0 q_snapshot q_history q_program q_notice va q v) ⟨hx, hb, hml, hown, hts⟩ g_L_149 hdv_X9_day hK hST hS hP [0, 1, 2, 3, 4, 5, 6, 7, 8, 9, 10, 11, 12, 13, 14, 15, 16, 17, 18, 19, 20] rfl (k0 := 0) rfl rfl rfl ⟨Nat.le_of_ble_eq_true rfl, Nat.le_of_ble_eq_true rfl⟩ ⟨Nat.le_of_ble_eq_true rfl, Nat.le_of_ble_eq_true rfl⟩ rfl hl.1 rfl (Nat.le_of_ble_eq_true rfl) dL_seen_11 rfl (fun b_2 => ?_)
  refine lv_imul hx hb dL_seen_14 ?_
  refine lv_aload_n hx hb dL_seen_15 rfl (lv_at hl 1 rfl) ?_
  refine r_V (own := RL) (v := (some (.int (f_X9_hour q v)))) (st1 := [.int (f_X9_hour q v), .int ((24 : Int32) * (f_X9_day q v)), .int (0 : Int32), .ref q_1]) (As := []) (rest := [.int ((24 : Int32) * (f_X9_day q v)), .int (0 : Int32), .ref q_1]) (c_X9_hourS l G qh0 q_snapshot q_history q_program q_notice va q v) ⟨hx, hb, hml, hown, hts⟩ g_L_199 hdv_X9_hour hK hST hS hP [0, 1, 2, 3, 4, 5, 6, 7, 8, 9, 10, 11, 12, 13, 14, 15, 16, 17, 18, 19, 20] rfl (k0 := 0) rfl rfl rfl ⟨Nat.le_of_ble_eq_true rfl, Nat.le_of_ble_eq_true rfl⟩ ⟨Nat.le_of_ble_eq_true rfl, Nat.le_of_ble_eq_true rfl⟩ rfl hl.1 rfl (Nat.le_of_ble_eq_true rfl) dL_seen_16 rfl (fun b_3 => ?_)
  refine lv_iadd hx hb dL_seen_19 ?_
  refine va_iast hx hb hK hP hD hS 21 0 rfl rfl (vp_in_nI (n := 0) (by decide) (by decide)) dL_seen_20 (fun H locs hP hD hS => ?_)
  have hP : va_P G.1 vwCl (fl [[(qh0, .inr (11, [.ref (va 0), .ref q_snapshot, .int q.1, .ref q_history, .ref q_program, .ref q_notice, .int q.2.1, .int q.2.2]))], wSt G va v, [cArr G q_1 260 (upd (fun _ => 0) (0 : Int32).toNatClampNeg (((24 : Int32) * (f_X9_day q v)) + (f_X9_hour q v)))]]) H := hP
  have hD : va_D A (fl [[(qh0, .inr (11, [.ref (va 0), .ref q_snapshot, .int q.1, .ref q_history, .ref q_program, .ref q_notice, .int q.2.1, .int q.2.2]))], wSt G va v, [cArr G q_1 260 (upd (fun _ => 0) (0 : Int32).toNatClampNeg (((24 : Int32) * (f_X9_day q v)) + (f_X9_hour q v)))]]) := hD
  refine lv_aload_n hx hb dL_seen_21 rfl (lv_at hl 0 rfl) ?_
  refine lv_iconst (v := (1 : Int32)) hx hb dL_seen_22 (by decide) ?_
  refine lv_aload_n hx hb dL_seen_23 rfl (lv_at hl 1 rfl) ?_
  refine r_V (own := RL) (v := (some (.int (f_X9_doorCount q v)))) (st1 := [.int (f_X9_doorCount q v), .int (1 : Int32), .ref q_1]) (As := []) (rest := [.int (1 : Int32), .ref q_1]) (c_X9_doorCountS l G qh0 q_snapshot q_history q_program q_notice va q v) ⟨hx, hb, hml, hown, hts⟩ g_L_202 hdv_X9_doorCount hK hST hS hP [0, 1, 2, 3, 4, 5, 6, 7, 8, 9, 10, 11, 12, 13, 14, 15, 16, 17, 18, 19, 20] rfl (k0 := 0) rfl rfl rfl ⟨Nat.le_of_ble_eq_true rfl, Nat.le_of_ble_eq_true rfl⟩ ⟨Nat.le_of_ble_eq_true rfl, Nat.le_of_ble_eq_true rfl⟩ rfl hl.1 rfl (Nat.le_of_ble_eq_true rfl) dL_seen_24 rfl (fun b_4 => ?_)
  refine va_iast hx hb hK hP hD hS 21 0 rfl rfl (vp_in_nI (n := 1) (by decide) (by decide)) dL_seen_27 (fun H locs hP hD hS => ?_)
  have hP : va_P G.1 vwCl (fl [[(qh0, .inr (11, [.ref (va 0), .ref q_snapshot, .int q.1, .ref q_history, .ref q_program, .ref q_notice, .int q.2.1, .int q.2.2]))], wSt G va v, [cArr G q_1 260 (upd (upd (fun _ => 0) (0 : Int32).toNatClampNeg (((24 : Int32) * (f_X9_day q v)) + (f_X9_hour q v))) (1 : Int32).toNatClampNeg (f_X9_doorCount q v))]]) H := hP
  have hD : va_D A (fl [[(qh0, .inr (11, [.ref (va 0), .ref q_snapshot, .int q.1, .ref q_history, .ref q_program, .ref q_notice, .int q.2.1, .int q.2.2]))], wSt G va v, [cArr G q_1 260 (upd (upd (fun _ => 0) (0 : Int32).toNatClampNeg (((24 : Int32) * (f_X9_day q v)) + (f_X9_hour q v))) (1 : Int32).toNatClampNeg (f_X9_doorCount q v))]]) := hD
  refine lv_aload_n hx hb dL_seen_28 rfl (lv_at hl 0 rfl) ?_
  refine lv_iconst (v := (2 : Int32)) hx hb dL_seen_29 (by decide) ?_
  refine lv_aload_n hx hb dL_seen_30 rfl (lv_at hl 1 rfl) ?_
  refine r_V (own := RL) (v := (some (.int (f_X9_personCount q v)))) (st1 := [.int (f_X9_personCount q v), .int (2 : Int32), .ref q_1]) (As := []) (rest := [.int (2 : Int32), .ref q_1]) (c_X9_personCountS l G qh0 q_snapshot q_history q_program q_notice va q v) ⟨hx, hb, hml, hown, hts⟩ g_L_205 hdv_X9_personCount hK hST hS hP [0, 1, 2, 3, 4, 5, 6, 7, 8, 9, 10, 11, 12, 13, 14, 15, 16, 17, 18, 19, 20] rfl (k0 := 0) rfl rfl rfl ⟨Nat.le_of_ble_eq_true rfl, Nat.le_of_ble_eq_true rfl⟩ ⟨Nat.le_of_ble_eq_true rfl, Nat.le_of_ble_eq_true rfl⟩ rfl hl.1 rfl (Nat.le_of_ble_eq_true rfl) dL_seen_31 rfl (fun b_5 => ?_)
  refine va_iast hx hb hK hP hD hS 21 0 rfl rfl (vp_in_nI (n := 2) (by decide) (by decide)) dL_seen_34 (fun H locs hP hD hS => ?_)
  have hP : va_P G.1 vwCl (fl [[(qh0, .inr (11, [.ref (va 0), .ref q_snapshot, .int q.1, .ref q_history, .ref q_program, .ref q_notice, .int q.2.1, .int q.2.2]))], wSt G va v, [cArr G q_1 260 (upd (upd (upd (fun _ => 0) (0 : Int32).toNatClampNeg (((24 : Int32) * (f_X9_day q v)) + (f_X9_hour q v))) (1 : Int32).toNatClampNeg (f_X9_doorCount q v)) (2 : Int32).toNatClampNeg (f_X9_personCount q v))]]) H := hP
  have hD : va_D A (fl [[(qh0, .inr (11, [.ref (va 0), .ref q_snapshot, .int q.1, .ref q_history, .ref q_program, .ref q_notice, .int q.2.1, .int q.2.2]))], wSt G va v, [cArr G q_1 260 (upd (upd (upd (fun _ => 0) (0 : Int32).toNatClampNeg (((24 : Int32) * (f_X9_day q v)) + (f_X9_hour q v))) (1 : Int32).toNatClampNeg (f_X9_doorCount q v)) (2 : Int32).toNatClampNeg (f_X9_personCount q v))]]) := hD
  refine lv_aload_n hx hb dL_seen_35 rfl (lv_at hl 0 rfl) ?_
  refine lv_iconst (v := (3 : Int32)) hx hb dL_seen_36 (by decide) ?_
  refine lv_aload_n hx hb dL_seen_37 rfl (lv_at hl 1 rfl) ?_
  refine r_V (own := RL) (v := (some (.int (f_X9_exceptionCount q v)))) (st1 := [.int (f_X9_exceptionCount q v), .int (3 : Int32), .ref q_1]) (As := []) (rest := [.int (3 : Int32), .ref q_1]) (c_X9_exceptionCountS l G qh0 q_snapshot q_history q_program q_notice va q v) ⟨hx, hb, hml, hown, hts⟩ g_L_152 hdv_X9_exceptionCount hK hST hS hP [0, 1, 2, 3, 4, 5, 6, 7, 8, 9, 10, 11, 12, 13, 14, 15, 16, 17, 18, 19, 20] rfl (k0 := 0) rfl rfl rfl ⟨Nat.le_of_ble_eq_true rfl, Nat.le_of_ble_eq_true rfl⟩ ⟨Nat.le_of_ble_eq_true rfl, Nat.le_of_ble_eq_true rfl⟩ rfl hl.1 rfl (Nat.le_of_ble_eq_true rfl) dL_seen_38 rfl (fun b_6 => ?_)
  refine va_iast hx hb hK hP hD hS 21 0 rfl rfl (vp_in_nI (n := 3) (by decide) (by decide)) dL_seen_41 (fun H locs hP hD hS => ?_)
  have hP : va_P G.1 vwCl (fl [[(qh0, .inr (11, [.ref (va 0), .ref q_snapshot, .int q.1, .ref q_history, .ref q_program, .ref q_notice, .int q.2.1, .int q.2.2]))], wSt G va v, [cArr G q_1 260 (upd (upd (upd (upd (fun _ => 0) (0 : Int32).toNatClampNeg (((24 : Int32) * (f_X9_day q v)) + (f_X9_hour q v))) (1 : Int32).toNatClampNeg (f_X9_doorCount q v)) (2 : Int32).toNatClampNeg (f_X9_personCount q v)) (3 : Int32).toNatClampNeg (f_X9_exceptionCount q v))]]) H := hP
  have hD : va_D A (fl [[(qh0, .inr (11, [.ref (va 0), .ref q_snapshot, .int q.1, .ref q_history, .ref q_program, .ref q_notice, .int q.2.1, .int q.2.2]))], wSt G va v, [cArr G q_1 260 (upd (upd (upd (upd (fun _ => 0) (0 : Int32).toNatClampNeg (((24 : Int32) * (f_X9_day q v)) + (f_X9_hour q v))) (1 : Int32).toNatClampNeg (f_X9_doorCount q v)) (2 : Int32).toNatClampNeg (f_X9_personCount q v)) (3 : Int32).toNatClampNeg (f_X9_exceptionCount q v))]]) := hD
  refine lv_iconst (v := (0 : Int32)) hx hb dL_seen_42 (by decide) ?_
  refine lv_istore_n (lv' := [(2, .int (0 : Int32)), (1, .ref q_1), (0, .ref qh0)]) hx hb dL_seen_43 rfl hl (by decide) rfl (fun ls hl => ?_)
  have hkI := hok.1
  have hok := hok.2
  have K44 : ∀ (r_11 : Int32 × (Nat → Int32)), r_11 = (lp_L_seen_44 q v 6 (0 : Int32) (upd (upd (upd (upd (fun _ => 0) (0 : Int32).toNatClampNeg (((24 : Int32) * (f_X9_day q v)) + (f_X9_hour q v))) (1 : Int32).toNatClampNeg (f_X9_doorCount q v)) (2 : Int32).toNatClampNeg (f_X9_personCount q v)) (3 : Int32).toNatClampNeg (f_X9_exceptionCount q v))) → ∀ (H : Heap) (locs : List Loc), ∀ (ls : Array Slot), lv_has ls 5 [(2, .int r_11.1), (1, .ref q_1), (0, .ref qh0)] → va_P G.1 vwCl (fl [[(qh0, .inr (11, [.ref (va 0), .ref q_snapshot, .int q.1, .ref q_history, .ref q_program, .ref q_notice, .int q.2.1, .int q.2.2]))], wSt G va v, [cArr G q_1 260 r_11.2]]) H → va_D A (fl [[(qh0, .inr (11, [.ref (va 0), .ref q_snapshot, .int q.1, .ref q_history, .ref q_program, .ref q_notice, .int q.2.1, .int q.2.2]))], wSt G va v, [cArr G q_1 260 r_11.2]]) → va_S A s.heap H locs → W p l e (rmd 11 524 3398) s m ([.ref qh0] : List Value).toArray below meth c H locs (7) (296) (MQ below (wQ (fun u : Nat × Nat × (Nat → Int32) => some (.ref u.1)) (fun u : Nat × Nat × (Nat → Int32) => u.2 = f_L_seen q v) (fun u : Nat × Nat × (Nat → Int32) => fl [[(qh0, .inr (11, [.ref (va 0), .ref q_snapshot, .int q.1, .ref q_history, .ref q_program, .ref q_notice, .int q.2.1, .int q.2.2]))], wSt G va v, [(u.1, .inl (G.2.1 0, u.2.1, .inl u.2.2))]]) G.1 A) ([.ref qh0] : List Value).toArray s 524 3398 A) (F0 m 65 ls []) := by
    intro r_11 er_11 H locs ls hl hP hD hS
    have hF : f_L_seen q v = (let r_44 : Int32 × (Nat → Int32) := (lp_L_seen_67 q v r_11 9 (0 : Int32) r_11.2); (let r_58 : Int32 × (Nat → Int32) := (lp_L_seen_184 q v r_11 r_44 7 (0 : Int32) r_44.2); (let r_67 : Int32 × (Nat → Int32) := (lp_L_seen_256 q v r_11 r_44 r_58 13 (0 : Int32) r_58.2); (let r_82 : Int32 × (Nat → Int32) := (lp_L_seen_300 q v r_11 r_44 r_58 r_67 11 (0 : Int32) r_67.2); (let r_87 : Int32 × (Nat → Int32) := (lp_L_seen_366 q v r_11 r_44 r_58 r_67 r_82 17 (0 : Int32) r_82.2); (260, r_87.2)))))) := by subst er_11; exact hF
    have hok : (okl_lp_L_seen_67 q v r_11 9 (0 : Int32) r_11.2 ∧ (∀ r_44 : Int32 × (Nat → Int32), r_44 = (lp_L_seen_67 q v r_11 9 (0 : Int32) r_11.2) → (okl_lp_L_seen_184 q v r_11 r_44 7 (0 : Int32) r_44.2 ∧ (∀ r_58 : Int32 × (Nat → Int32), r_58 = (lp_L_seen_184 q v r_11 r_44 7 (0 : Int32) r_44.2) → (okl_lp_L_seen_256 q v r_11 r_44 r_58 13 (0 : Int32) r_58.2 ∧ (∀ r_67 : Int32 × (Nat → Int32), r_67 = (lp_L_seen_256 q v r_11 r_44 r_58 13 (0 : Int32) r_58.2) → (okl_lp_L_seen_300 q v r_11 r_44 r_58 r_67 11 (0 : Int32) r_67.2 ∧ (∀ r_82 : Int32 × (Nat → Int32), r_82 = (lp_L_seen_300 q v r_11 r_44 r_58 r_67 11 (0 : Int32) r_67.2) → (okl_lp_L_seen_366 q v r_11 r_44 r_58 r_67 r_82 17 (0 : Int32) r_82.2 ∧ True))))))))) := hok _ er_11
    refine lv_iconst (v := (0 : Int32)) hx hb dL_seen_65 (by decide) ?_
    refine lv_istore_n (lv' := [(2, .int (0 : Int32)), (1, .ref q_1), (0, .ref qh0)]) hx hb dL_seen_66 rfl hl (by decide) rfl (fun ls hl => ?_)
    have hkI := hok.1
    have hok := hok.2
    have K67 : ∀ (r_44 : Int32 × (Nat → Int32)), r_44 = (lp_L_seen_67 q v r_11 9 (0 : Int32) r_11.2) → ∀ (H : Heap) (locs : List Loc), ∀ (ls : Array Slot), lv_has ls 5 [(2, .int r_44.1), (1, .ref q_1), (0, .ref qh0)] → va_P G.1 vwCl (fl [[(qh0, .inr (11, [.ref (va 0), .ref q_snapshot, .int q.1, .ref q_history, .ref q_program, .ref q_notice, .int q.2.1, .int q.2.2]))], wSt G va v, [cArr G q_1 260 r_44.2]]) H → va_D A (fl [[(qh0, .inr (11, [.ref (va 0), .ref q_snapshot, .int q.1, .ref q_history, .ref q_program, .ref q_notice, .int q.2.1, .int q.2.2]))], wSt G va v, [cArr G q_1 260 r_44.2]]) → va_S A s.heap H locs → W p l e (rmd 11 524 3398) s m ([.ref qh0] : List Value).toArray below meth c H locs (367) (2456) (MQ below (wQ (fun u : Nat × Nat × (Nat → Int32) => some (.ref u.1)) (fun u : Nat × Nat × (Nat → Int32) => u.2 = f_L_seen q v) (fun u : Nat × Nat × (Nat → Int32) => fl [[(qh0, .inr (11, [.ref (va 0), .ref q_snapshot, .int q.1, .ref q_history, .ref q_program, .ref q_notice, .int q.2.1, .int q.2.2]))], wSt G va v, [(u.1, .inl (G.2.1 0, u.2.1, .inl u.2.2))]]) G.1 A) ([.ref qh0] : List Value).toArray s 524 3398 A) (F0 m 182 ls []) := by
      intro r_44 er_44 H locs ls hl hP hD hS
      have hF : f_L_seen q v = (let r_58 : Int32 × (Nat → Int32) := (lp_L_seen_184 q v r_11 r_44 7 (0 : Int32) r_44.2); (let r_67 : Int32 × (Nat → Int32) := (lp_L_seen_256 q v r_11 r_44 r_58 13 (0 : Int32) r_58.2); (let r_82 : Int32 × (Nat → Int32) := (lp_L_seen_300 q v r_11 r_44 r_58 r_67 11 (0 : Int32) r_67.2); (let r_87 : Int32 × (Nat → Int32) := (lp_L_seen_366 q v r_11 r_44 r_58 r_67 r_82 17 (0 : Int32) r_82.2); (260, r_87.2))))) := by subst er_44; exact hF
      have hok : (okl_lp_L_seen_184 q v r_11 r_44 7 (0 : Int32) r_44.2 ∧ (∀ r_58 : Int32 × (Nat → Int32), r_58 = (lp_L_seen_184 q v r_11 r_44 7 (0 : Int32) r_44.2) → (okl_lp_L_seen_256 q v r_11 r_44 r_58 13 (0 : Int32) r_58.2 ∧ (∀ r_67 : Int32 × (Nat → Int32), r_67 = (lp_L_seen_256 q v r_11 r_44 r_58 13 (0 : Int32) r_58.2) → (okl_lp_L_seen_300 q v r_11 r_44 r_58 r_67 11 (0 : Int32) r_67.2 ∧ (∀ r_82 : Int32 × (Nat → Int32), r_82 = (lp_L_seen_300 q v r_11 r_44 r_58 r_67 11 (0 : Int32) r_67.2) → (okl_lp_L_seen_366 q v r_11 r_44 r_58 r_67 r_82 17 (0 : Int32) r_82.2 ∧ True))))))) := hok _ er_44
      refine lv_iconst (v := (0 : Int32)) hx hb dL_seen_182 (by decide) ?_
      refine lv_istore_n (lv' := [(2, .int (0 : Int32)), (1, .ref q_1), (0, .ref qh0)]) hx hb dL_seen_183 rfl hl (by decide) rfl (fun ls hl => ?_)
      have hkI := hok.1
      have hok := hok.2
      have K184 : ∀ (r_58 : Int32 × (Nat → Int32)), r_58 = (lp_L_seen_184 q v r_11 r_44 7 (0 : Int32) r_44.2) → ∀ (H : Heap) (locs : List Loc), ∀ (ls : Array Slot), lv_has ls 5 [(2, .int r_58.1), (1, .ref q_1), (0, .ref qh0)] → va_P G.1 vwCl (fl [[(qh0, .inr (11, [.ref (va 0), .ref q_snapshot, .int q.1, .ref q_history, .ref q_program, .ref q_notice, .int q.2.1, .int q.2.2]))], wSt G va v, [cArr G q_1 260 r_58.2]]) H → va_D A (fl [[(qh0, .inr (11, [.ref (va 0), .ref q_snapshot, .int q.1, .ref q_history, .ref q_program, .ref q_notice, .int q.2.1, .int q.2.2]))], wSt G va v, [cArr G q_1 260 r_58.2]]) → va_S A s.heap H locs → W p l e (rmd 11 524 3398) s m ([.ref qh0] : List Value).toArray below meth c H locs (437) (2876) (MQ below (wQ (fun u : Nat × Nat × (Nat → Int32) => some (.ref u.1)) (fun u : Nat × Nat × (Nat → Int32) => u.2 = f_L_seen q v) (fun u : Nat × Nat × (Nat → Int32) => fl [[(qh0, .inr (11, [.ref (va 0), .ref q_snapshot, .int q.1, .ref q_history, .ref q_program, .ref q_notice, .int q.2.1, .int q.2.2]))], wSt G va v, [(u.1, .inl (G.2.1 0, u.2.1, .inl u.2.2))]]) G.1 A) ([.ref qh0] : List Value).toArray s 524 3398 A) (F0 m 254 ls []) := by
        intro r_58 er_58 H locs ls hl hP hD hS
        have hF : f_L_seen q v = (let r_67 : Int32 × (Nat → Int32) := (lp_L_seen_256 q v r_11 r_44 r_58 13 (0 : Int32) r_58.2); (let r_82 : Int32 × (Nat → Int32) := (lp_L_seen_300 q v r_11 r_44 r_58 r_67 11 (0 : Int32) r_67.2); (let r_87 : Int32 × (Nat → Int32) := (lp_L_seen_366 q v r_11 r_44 r_58 r_67 r_82 17 (0 : Int32) r_82.2); (260, r_87.2)))) := by subst er_58; exact hF
        have hok : (okl_lp_L_seen_256 q v r_11 r_44 r_58 13 (0 : Int32) r_58.2 ∧ (∀ r_67 : Int32 × (Nat → Int32), r_67 = (lp_L_seen_256 q v r_11 r_44 r_58 13 (0 : Int32) r_58.2) → (okl_lp_L_seen_300 q v r_11 r_44 r_58 r_67 11 (0 : Int32) r_67.2 ∧ (∀ r_82 : Int32 × (Nat → Int32), r_82 = (lp_L_seen_300 q v r_11 r_44 r_58 r_67 11 (0 : Int32) r_67.2) → (okl_lp_L_seen_366 q v r_11 r_44 r_58 r_67 r_82 17 (0 : Int32) r_82.2 ∧ True))))) := hok _ er_58
        refine lv_iconst (v := (0 : Int32)) hx hb dL_seen_254 (by decide) ?_
        refine lv_istore_n (lv' := [(2, .int (0 : Int32)), (1, .ref q_1), (0, .ref qh0)]) hx hb dL_seen_255 rfl hl (by decide) rfl (fun ls hl => ?_)
        have hkI := hok.1
        have hok := hok.2
        have K256 : ∀ (r_67 : Int32 × (Nat → Int32)), r_67 = (lp_L_seen_256 q v r_11 r_44 r_58 13 (0 : Int32) r_58.2) → ∀ (H : Heap) (locs : List Loc), ∀ (ls : Array Slot), lv_has ls 5 [(2, .int r_67.1), (1, .ref q_1), (0, .ref qh0)] → va_P G.1 vwCl (fl [[(qh0, .inr (11, [.ref (va 0), .ref q_snapshot, .int q.1, .ref q_history, .ref q_program, .ref q_notice, .int q.2.1, .int q.2.2]))], wSt G va v, [cArr G q_1 260 r_67.2]]) H → va_D A (fl [[(qh0, .inr (11, [.ref (va 0), .ref q_snapshot, .int q.1, .ref q_history, .ref q_program, .ref q_notice, .int q.2.1, .int q.2.2]))], wSt G va v, [cArr G q_1 260 r_67.2]]) → va_S A s.heap H locs → W p l e (rmd 11 524 3398) s m ([.ref qh0] : List Value).toArray below meth c H locs (463) (3032) (MQ below (wQ (fun u : Nat × Nat × (Nat → Int32) => some (.ref u.1)) (fun u : Nat × Nat × (Nat → Int32) => u.2 = f_L_seen q v) (fun u : Nat × Nat × (Nat → Int32) => fl [[(qh0, .inr (11, [.ref (va 0), .ref q_snapshot, .int q.1, .ref q_history, .ref q_program, .ref q_notice, .int q.2.1, .int q.2.2]))], wSt G va v, [(u.1, .inl (G.2.1 0, u.2.1, .inl u.2.2))]]) G.1 A) ([.ref qh0] : List Value).toArray s 524 3398 A) (F0 m 298 ls []) := by
          intro r_67 er_67 H locs ls hl hP hD hS
          have hF : f_L_seen q v = (let r_82 : Int32 × (Nat → Int32) := (lp_L_seen_300 q v r_11 r_44 r_58 r_67 11 (0 : Int32) r_67.2); (let r_87 : Int32 × (Nat → Int32) := (lp_L_seen_366 q v r_11 r_44 r_58 r_67 r_82 17 (0 : Int32) r_82.2); (260, r_87.2))) := by subst er_67; exact hF
          have hok : (okl_lp_L_seen_300 q v r_11 r_44 r_58 r_67 11 (0 : Int32) r_67.2 ∧ (∀ r_82 : Int32 × (Nat → Int32), r_82 = (lp_L_seen_300 q v r_11 r_44 r_58 r_67 11 (0 : Int32) r_67.2) → (okl_lp_L_seen_366 q v r_11 r_44 r_58 r_67 r_82 17 (0 : Int32) r_82.2 ∧ True))) := hok _ er_67
          refine lv_iconst (v := (0 : Int32)) hx hb dL_seen_298 (by decide) ?_
          refine lv_istore_n (lv' := [(2, .int (0 : Int32)), (1, .ref q_1), (0, .ref qh0)]) hx hb dL_seen_299 rfl hl (by decide) rfl (fun ls hl => ?_)
          have hkI := hok.1
          have hok := hok.2
          have K300 : ∀ (r_82 : Int32 × (Nat → Int32)), r_82 = (lp_L_seen_300 q v r_11 r_44 r_58 r_67 11 (0 : Int32) r_67.2) → ∀ (H : Heap) (locs : List Loc), ∀ (ls : Array Slot), lv_has ls 5 [(2, .int r_82.1), (1, .ref q_1), (0, .ref qh0)] → va_P G.1 vwCl (fl [[(qh0, .inr (11, [.ref (va 0), .ref q_snapshot, .int q.1, .ref q_history, .ref q_program, .ref q_notice, .int q.2.1, .int q.2.2]))], wSt G va v, [cArr G q_1 260 r_82.2]]) H → va_D A (fl [[(qh0, .inr (11, [.ref (va 0), .ref q_snapshot, .int q.1, .ref q_history, .ref q_program, .ref q_notice, .int q.2.1, .int q.2.2]))], wSt G va v, [cArr G q_1 260 r_82.2]]) → va_S A s.heap H locs → W p l e (rmd 11 524 3398) s m ([.ref qh0] : List Value).toArray below meth c H locs (507) (3296) (MQ below (wQ (fun u : Nat × Nat × (Nat → Int32) => some (.ref u.1)) (fun u : Nat × Nat × (Nat → Int32) => u.2 = f_L_seen q v) (fun u : Nat × Nat × (Nat → Int32) => fl [[(qh0, .inr (11, [.ref (va 0), .ref q_snapshot, .int q.1, .ref q_history, .ref q_program, .ref q_notice, .int q.2.1, .int q.2.2]))], wSt G va v, [(u.1, .inl (G.2.1 0, u.2.1, .inl u.2.2))]]) G.1 A) ([.ref qh0] : List Value).toArray s 524 3398 A) (F0 m 364 ls []) := by
            intro r_82 er_82 H locs ls hl hP hD hS
            have hF : f_L_seen q v = (let r_87 : Int32 × (Nat → Int32) := (lp_L_seen_366 q v r_11 r_44 r_58 r_67 r_82 17 (0 : Int32) r_82.2); (260, r_87.2)) := by subst er_82; exact hF
            have hok : (okl_lp_L_seen_366 q v r_11 r_44 r_58 r_67 r_82 17 (0 : Int32) r_82.2 ∧ True) := hok _ er_82
            refine lv_iconst (v := (0 : Int32)) hx hb dL_seen_364 (by decide) ?_
            refine lv_istore_n (lv' := [(2, .int (0 : Int32)), (1, .ref q_1), (0, .ref qh0)]) hx hb dL_seen_365 rfl hl (by decide) rfl (fun ls hl => ?_)
            have hkI := hok.1
            have hok := hok.2
            have K366 : ∀ (r_87 : Int32 × (Nat → Int32)), r_87 = (lp_L_seen_366 q v r_11 r_44 r_58 r_67 r_82 17 (0 : Int32) r_82.2) → ∀ (H : Heap) (locs : List Loc), ∀ (ls : Array Slot), lv_has ls 5 [(2, .int r_87.1), (1, .ref q_1), (0, .ref qh0)] → va_P G.1 vwCl (fl [[(qh0, .inr (11, [.ref (va 0), .ref q_snapshot, .int q.1, .ref q_history, .ref q_program, .ref q_notice, .int q.2.1, .int q.2.2]))], wSt G va v, [cArr G q_1 260 r_87.2]]) H → va_D A (fl [[(qh0, .inr (11, [.ref (va 0), .ref q_snapshot, .int q.1, .ref q_history, .ref q_program, .ref q_notice, .int q.2.1, .int q.2.2]))], wSt G va v, [cArr G q_1 260 r_87.2]]) → va_S A s.heap H locs → W p l e (rmd 11 524 3398) s m ([.ref qh0] : List Value).toArray below meth c H locs (524) (3398) (MQ below (wQ (fun u : Nat × Nat × (Nat → Int32) => some (.ref u.1)) (fun u : Nat × Nat × (Nat → Int32) => u.2 = f_L_seen q v) (fun u : Nat × Nat × (Nat → Int32) => fl [[(qh0, .inr (11, [.ref (va 0), .ref q_snapshot, .int q.1, .ref q_history, .ref q_program, .ref q_notice, .int q.2.1, .int q.2.2]))], wSt G va v, [(u.1, .inl (G.2.1 0, u.2.1, .inl u.2.2))]]) G.1 A) ([.ref qh0] : List Value).toArray s 524 3398 A) (F0 m 392 ls []) := by
              intro r_87 er_87 H locs ls hl hP hD hS
              have hF : f_L_seen q v = (260, r_87.2) := by subst er_87; exact hF
              refine lv_aload_n hx hb dL_seen_392 rfl (lv_at hl 1 rfl) ?_
              exact w_retA (u := (q_1, (260, r_87.2))) hx hb hr hlk (Or.inr ⟨_, rfl⟩) (Or.inr ⟨_, rfl⟩) hS rfl hF.symm hP hD (Nat.le_of_ble_eq_true rfl) (Nat.le_of_ble_eq_true rfl) dL_seen_393
            have L366 : ∀ (n : Nat) (x2 : Int32) (allL : Nat → Int32) (H : Heap) (locs : List Loc) (kc_366 ks_366 : Nat) (ls : Array Slot), lv_has ls 5 [(2, .int x2), (1, .ref q_1), (0, .ref qh0)] → va_P G.1 vwCl (fl [[(qh0, .inr (11, [.ref (va 0), .ref q_snapshot, .int q.1, .ref q_history, .ref q_program, .ref q_notice, .int q.2.1, .int q.2.2]))], wSt G va v, [cArr G q_1 260 allL]]) H → va_D A (fl [[(qh0, .inr (11, [.ref (va 0), .ref q_snapshot, .int q.1, .ref q_history, .ref q_program, .ref q_notice, .int q.2.1, .int q.2.2]))], wSt G va v, [cArr G q_1 260 allL]]) → va_S A s.heap H locs → kc_366 + n * 1 ≤ (507) + 17 → ks_366 + n * 6 ≤ (3296) + 102 → (lp_L_seen_366 q v r_11 r_44 r_58 r_67 r_82 17 (0 : Int32) r_82.2) = lp_L_seen_366 q v r_11 r_44 r_58 r_67 r_82 n x2 allL → okl_lp_L_seen_366 q v r_11 r_44 r_58 r_67 r_82 n x2 allL → W p l e (rmd 11 524 3398) s m ([.ref qh0] : List Value).toArray below meth c H locs kc_366 ks_366 (MQ below (wQ (fun u : Nat × Nat × (Nat → Int32) => some (.ref u.1)) (fun u : Nat × Nat × (Nat → Int32) => u.2 = f_L_seen q v) (fun u : Nat × Nat × (Nat → Int32) => fl [[(qh0, .inr (11, [.ref (va 0), .ref q_snapshot, .int q.1, .ref q_history, .ref q_program, .ref q_notice, .int q.2.1, .int q.2.2]))], wSt G va v, [(u.1, .inl (G.2.1 0, u.2.1, .inl u.2.2))]]) G.1 A) ([.ref qh0] : List Value).toArray s 524 3398 A) (F0 m 366 ls []) := by
              intro n
              induction n with
              | zero => intro x2 allL H locs kc_366 ks_366 ls hl _ _ _ _ _ hI hok; exact hok.elim
              | succ n ih =>
                intro x2 allL H locs kc_366 ks_366 ls hl hP hD hS hkc_366 hks_366 hI hok
                have hI : (lp_L_seen_366 q v r_11 r_44 r_58 r_67 r_82 17 (0 : Int32) r_82.2) = (if (16 : Int32) ≤ x2 then (x2, allL) else (lp_L_seen_366 q v r_11 r_44 r_58 r_67 r_82 n (x2 + 1) (upd allL ((242 : Int32) + x2).toNatClampNeg ((f_X9_phaseOn q v ((2 : Int32) * x2)).2)))) := hI
                have hok : (if (16 : Int32) ≤ x2 then True else ((f_X9_phaseOn q v ((2 : Int32) * x2)).1 = "" ∧ (vp_in ((242 : Int32) + x2) 260 ∧ (okl_lp_L_seen_366 q v r_11 r_44 r_58 r_67 r_82 n (x2 + 1) (upd allL ((242 : Int32) + x2).toNatClampNeg ((f_X9_phaseOn q v ((2 : Int32) * x2)).2)))))) := hok
                refine lv_iload_n hx hb dL_seen_366 rfl (lv_at hl 0 rfl) ?_
                refine lv_bipush (v := (16 : Int32)) hx hb dL_seen_367 (by decide) ?_
                refine lv_icmp_ge (tgt := 392) hx hb dL_seen_369 (by decide) (fun c_83 => ?_) (fun c_83 => ?_)
                · have hI := hI.trans (if_pos c_83)
                  have hok := Eq.mp (if_pos c_83) hok
                  refine W.widen (k := (524)) (n := (3398)) (by omega) (by omega) ?_
                  exact K366 _ hI.symm _ _ ls (lv_sub hl [0, 1, 2] rfl) hP hD hS
                · have hI := hI.trans (if_neg c_83)
                  have hok := Eq.mp (if_neg c_83) hok
                  refine lv_aload_n hx hb dL_seen_372 rfl (lv_at hl 1 rfl) ?_
                  refine lv_sipush (v := (242 : Int32)) hx hb dL_seen_373 (by decide) ?_
                  refine lv_iload_n hx hb dL_seen_376 rfl (lv_at hl 0 rfl) ?_
                  refine lv_iadd hx hb dL_seen_377 ?_
                  refine lv_aload_n hx hb dL_seen_378 rfl (lv_at hl 2 rfl) ?_
                  refine lv_iconst (v := (2 : Int32)) hx hb dL_seen_379 (by decide) ?_
                  refine lv_iload_n hx hb dL_seen_380 rfl (lv_at hl 0 rfl) ?_
                  refine lv_imul hx hb dL_seen_381 ?_
                  have h_85 := hok.1
                  have hok := hok.2
                  refine xr_V (own := RL) (v := (some (.int ((f_X9_phaseOn q v ((2 : Int32) * x2)).2)))) (st1 := [.int ((f_X9_phaseOn q v ((2 : Int32) * x2)).2), .int ((242 : Int32) + x2), .ref q_1]) (As := [.int ((2 : Int32) * x2)]) (rest := [.int ((242 : Int32) + x2), .ref q_1]) (c_X9_phaseOnS l hlf G qh0 q_snapshot q_history q_program q_notice va q v ((2 : Int32) * x2)) ⟨hx, hb, hml, hown, hts⟩ g_L_244 hdv_X9_phaseOn hK hST hS hP [0, 1, 2, 3, 4, 5, 6, 7, 8, 9, 10, 11, 12, 13, 14, 15, 16, 17, 18, 19, 20] rfl (k0 := 0) rfl rfl rfl ⟨Nat.le_of_ble_eq_true rfl, Nat.le_of_ble_eq_true rfl⟩ ⟨(by show _ ≤ 524; omega), (by show _ ≤ 3398; omega)⟩ rfl hl.1 rfl (Nat.le_of_ble_eq_true rfl) dL_seen_382 rfl (fun E ce q9 H hE h1 h2 h3 h4 h5 => absurd (hE.1.trans h_85) hE.2) (fun b_84 => ?_)
                  have hP := hP
                  have b_84 := b_84.2
                  have h_86 := hok.1
                  have hok := hok.2
                  refine va_iast hx hb hK hP hD hS 21 0 rfl rfl h_86 dL_seen_385 (fun H locs hP hD hS => ?_)
                  have hP : va_P G.1 vwCl (fl [[(qh0, .inr (11, [.ref (va 0), .ref q_snapshot, .int q.1, .ref q_history, .ref q_program, .ref q_notice, .int q.2.1, .int q.2.2]))], wSt G va v, [cArr G q_1 260 (upd allL ((242 : Int32) + x2).toNatClampNeg ((f_X9_phaseOn q v ((2 : Int32) * x2)).2))]]) H := hP
                  have hD : va_D A (fl [[(qh0, .inr (11, [.ref (va 0), .ref q_snapshot, .int q.1, .ref q_history, .ref q_program, .ref q_notice, .int q.2.1, .int q.2.2]))], wSt G va v, [cArr G q_1 260 (upd allL ((242 : Int32) + x2).toNatClampNeg ((f_X9_phaseOn q v ((2 : Int32) * x2)).2))]]) := hD
                  refine lv_iinc (v := (x2 + 1)) (lv' := [(2, .int (x2 + 1)), (1, .ref q_1), (0, .ref qh0)]) hx hb dL_seen_386 hl (k := 0) rfl rfl (by decide) rfl (fun ls hl => ?_)
                  refine lv_goto (tgt := 366) hx hb dL_seen_389 (by decide) ?_
                  exact ih (x2 + 1) (upd allL ((242 : Int32) + x2).toNatClampNeg ((f_X9_phaseOn q v ((2 : Int32) * x2)).2)) _ _ _ _ ls (lv_sub hl [0, 1, 2] rfl) hP hD hS (by omega) (by omega) hI hok
            refine W.widen (k := (507)) (n := (3296)) (Nat.le_of_ble_eq_true rfl) (Nat.le_of_ble_eq_true rfl) ?_
            exact L366 17 (0 : Int32) r_82.2 _ _ (507) (3296) ls (lv_sub hl [0, 1, 2] rfl) hP hD hS (Nat.le_refl _) (Nat.le_refl _) rfl hkI
          have L300 : ∀ (n : Nat) (x2 : Int32) (allL : Nat → Int32) (H : Heap) (locs : List Loc) (kc_300 ks_300 : Nat) (ls : Array Slot), lv_has ls 5 [(2, .int x2), (1, .ref q_1), (0, .ref qh0)] → va_P G.1 vwCl (fl [[(qh0, .inr (11, [.ref (va 0), .ref q_snapshot, .int q.1, .ref q_history, .ref q_program, .ref q_notice, .int q.2.1, .int q.2.2]))], wSt G va v, [cArr G q_1 260 allL]]) H → va_D A (fl [[(qh0, .inr (11, [.ref (va 0), .ref q_snapshot, .int q.1, .ref q_history, .ref q_program, .ref q_notice, .int q.2.1, .int q.2.2]))], wSt G va v, [cArr G q_1 260 allL]]) → va_S A s.heap H locs → kc_300 + n * 4 ≤ (463) + 44 → ks_300 + n * 24 ≤ (3032) + 264 → (lp_L_seen_300 q v r_11 r_44 r_58 r_67 11 (0 : Int32) r_67.2) = lp_L_seen_300 q v r_11 r_44 r_58 r_67 n x2 allL → okl_lp_L_seen_300 q v r_11 r_44 r_58 r_67 n x2 allL → W p l e (rmd 11 524 3398) s m ([.ref qh0] : List Value).toArray below meth c H locs kc_300 ks_300 (MQ below (wQ (fun u : Nat × Nat × (Nat → Int32) => some (.ref u.1)) (fun u : Nat × Nat × (Nat → Int32) => u.2 = f_L_seen q v) (fun u : Nat × Nat × (Nat → Int32) => fl [[(qh0, .inr (11, [.ref (va 0), .ref q_snapshot, .int q.1, .ref q_history, .ref q_program, .ref q_notice, .int q.2.1, .int q.2.2]))], wSt G va v, [(u.1, .inl (G.2.1 0, u.2.1, .inl u.2.2))]]) G.1 A) ([.ref qh0] : List Value).toArray s 524 3398 A) (F0 m 300 ls []) := by
            intro n
            induction n with
            | zero => intro x2 allL H locs kc_300 ks_300 ls hl _ _ _ _ _ hI hok; exact hok.elim
            | succ n ih =>
              intro x2 allL H locs kc_300 ks_300 ls hl hP hD hS hkc_300 hks_300 hI hok
              have hI : (lp_L_seen_300 q v r_11 r_44 r_58 r_67 11 (0 : Int32) r_67.2) = (if (10 : Int32) ≤ x2 then (x2, allL) else (let uu_71 : Int32 := (f_L_loggedResult q v x2); (if uu_71 < (0 : Int32) then (x2, allL) else (lp_L_seen_300 q v r_11 r_44 r_58 r_67 n (x2 + 1) (upd (upd (upd allL ((210 : Int32) + ((3 : Int32) * x2)).toNatClampNeg ((f_X9_loggedPerson q v x2).2)) ((211 : Int32) + ((3 : Int32) * x2)).toNatClampNeg ((f_X9_loggedDoor q v x2).2)) ((212 : Int32) + ((3 : Int32) * x2)).toNatClampNeg ((1 : Int32) + (f_X9_loggedResult q v x2).2)))))) := hI
              have hok : (if (10 : Int32) ≤ x2 then True else (ok_L_loggedResult q v x2 ∧ (∀ uu_71 : Int32, uu_71 = (f_L_loggedResult q v x2) → (if uu_71 < (0 : Int32) then True else ((f_X9_loggedPerson q v x2).1 = "" ∧ (vp_in ((210 : Int32) + ((3 : Int32) * x2)) 260 ∧ ((f_X9_loggedDoor q v x2).1 = "" ∧ (vp_in ((211 : Int32) + ((3 : Int32) * x2)) 260 ∧ ((f_X9_loggedResult q v x2).1 = "" ∧ (vp_in ((212 : Int32) + ((3 : Int32) * x2)) 260 ∧ (okl_lp_L_seen_300 q v r_11 r_44 r_58 r_67 n (x2 + 1) (upd (upd (upd allL ((210 : Int32) + ((3 : Int32) * x2)).toNatClampNeg ((f_X9_loggedPerson q v x2).2)) ((211 : Int32) + ((3 : Int32) * x2)).toNatClampNeg ((f_X9_loggedDoor q v x2).2)) ((212 : Int32) + ((3 : Int32) * x2)).toNatClampNeg ((1 : Int32) + (f_X9_loggedResult q v x2).2))))))))))))) := hok
              refine lv_iload_n hx hb dL_seen_300 rfl (lv_at hl 0 rfl) ?_
              refine lv_bipush (v := (10 : Int32)) hx hb dL_seen_301 (by decide) ?_
              refine lv_icmp_ge (tgt := 364) hx hb dL_seen_303 (by decide) (fun c_68 => ?_) (fun c_68 => ?_)
              · have hI := hI.trans (if_pos c_68)
                have hok := Eq.mp (if_pos c_68) hok
                refine W.widen (k := (507)) (n := (3296)) (by omega) (by omega) ?_
                exact K300 _ hI.symm _ _ ls (lv_sub hl [0, 1, 2] rfl) hP hD hS
              · have hI := hI.trans (if_neg c_68)
                have hok := Eq.mp (if_neg c_68) hok
                refine lv_aload_n hx hb dL_seen_306 rfl (lv_at hl 2 rfl) ?_
                refine lv_iload_n hx hb dL_seen_307 rfl (lv_at hl 0 rfl) ?_
                have k_69 := hok.1
                have hok := hok.2
                refine w_SH (own := RL) (cs := [[(qh0, .inr (11, [.ref (va 0), .ref q_snapshot, .int q.1, .ref q_history, .ref q_program, .ref q_notice, .int q.2.1, .int q.2.2]))], wSt G va v]) (rs := [[cArr G q_1 260 allL]]) (As := [.ref qh0, .int x2]) (rest := []) (c_L_loggedResult l hlf G qh0 q_snapshot q_history q_program q_notice va H.size q v x2 k_69) ⟨hx, hb, hml, hown, hts⟩ gh_L_236 hds_L_loggedResult hK hST hS hP hD hA [0, 1] [2] rfl rfl rfl ⟨Nat.le_of_ble_eq_true rfl, Nat.le_of_ble_eq_true rfl⟩ ⟨(by show _ ≤ 524; omega), (by show _ ≤ 3398; omega)⟩ rfl hl.1 rfl (Nat.le_of_ble_eq_true rfl) dL_seen_308 (fun uu_71 H locs huu hP hD hS => ?_)
                have euu_71 := huu
                have hP : va_P G.1 vwCl (fl [[(qh0, .inr (11, [.ref (va 0), .ref q_snapshot, .int q.1, .ref q_history, .ref q_program, .ref q_notice, .int q.2.1, .int q.2.2]))], wSt G va v, [cArr G q_1 260 allL]]) H := hP
                have hD : va_D A (fl [[(qh0, .inr (11, [.ref (va 0), .ref q_snapshot, .int q.1, .ref q_history, .ref q_program, .ref q_notice, .int q.2.1, .int q.2.2]))], wSt G va v, [cArr G q_1 260 allL]]) := hD
                refine W.eq (g2 := F0 m 311 ls [.int uu_71]) rfl ?_
                have hI : (lp_L_seen_300 q v r_11 r_44 r_58 r_67 11 (0 : Int32) r_67.2) = (if uu_71 < (0 : Int32) then (x2, allL) else (lp_L_seen_300 q v r_11 r_44 r_58 r_67 n (x2 + 1) (upd (upd (upd allL ((210 : Int32) + ((3 : Int32) * x2)).toNatClampNeg ((f_X9_loggedPerson q v x2).2)) ((211 : Int32) + ((3 : Int32) * x2)).toNatClampNeg ((f_X9_loggedDoor q v x2).2)) ((212 : Int32) + ((3 : Int32) * x2)).toNatClampNeg ((1 : Int32) + (f_X9_loggedResult q v x2).2)))) := by subst euu_71; exact hI
                have hok : (if uu_71 < (0 : Int32) then True else ((f_X9_loggedPerson q v x2).1 = "" ∧ (vp_in ((210 : Int32) + ((3 : Int32) * x2)) 260 ∧ ((f_X9_loggedDoor q v x2).1 = "" ∧ (vp_in ((211 : Int32) + ((3 : Int32) * x2)) 260 ∧ ((f_X9_loggedResult q v x2).1 = "" ∧ (vp_in ((212 : Int32) + ((3 : Int32) * x2)) 260 ∧ (okl_lp_L_seen_300 q v r_11 r_44 r_58 r_67 n (x2 + 1) (upd (upd (upd allL ((210 : Int32) + ((3 : Int32) * x2)).toNatClampNeg ((f_X9_loggedPerson q v x2).2)) ((211 : Int32) + ((3 : Int32) * x2)).toNatClampNeg ((f_X9_loggedDoor q v x2).2)) ((212 : Int32) + ((3 : Int32) * x2)).toNatClampNeg ((1 : Int32) + (f_X9_loggedResult q v x2).2)))))))))) := hok _ euu_71
                refine lv_if_lt (tgt := 364) hx hb dL_seen_311 (by decide) (fun c_72 => ?_) (fun c_72 => ?_)
                · have hI := hI.trans (if_pos c_72)
                  have hok := Eq.mp (if_pos c_72) hok
                  refine W.widen (k := (507)) (n := (3296)) (by omega) (by omega) ?_
                  exact K300 _ hI.symm _ _ ls (lv_sub hl [0, 1, 2] rfl) hP hD hS
                · have hI := hI.trans (if_neg c_72)
                  have hok := Eq.mp (if_neg c_72) hok
                  refine lv_aload_n hx hb dL_seen_314 rfl (lv_at hl 1 rfl) ?_
                  refine lv_sipush (v := (210 : Int32)) hx hb dL_seen_315 (by decide) ?_
                  refine lv_iconst (v := (3 : Int32)) hx hb dL_seen_318 (by decide) ?_
                  refine lv_iload_n hx hb dL_seen_319 rfl (lv_at hl 0 rfl) ?_
                  refine lv_imul hx hb dL_seen_320 ?_
                  refine lv_iadd hx hb dL_seen_321 ?_
                  refine lv_aload_n hx hb dL_seen_322 rfl (lv_at hl 2 rfl) ?_
                  refine lv_iload_n hx hb dL_seen_323 rfl (lv_at hl 0 rfl) ?_
                  have h_74 := hok.1
                  have hok := hok.2
                  refine xr_V (own := RL) (v := (some (.int ((f_X9_loggedPerson q v x2).2)))) (st1 := [.int ((f_X9_loggedPerson q v x2).2), .int ((210 : Int32) + ((3 : Int32) * x2)), .ref q_1]) (As := [.int x2]) (rest := [.int ((210 : Int32) + ((3 : Int32) * x2)), .ref q_1]) (c_X9_loggedPersonS l hlf G qh0 q_snapshot q_history q_program q_notice va q v x2) ⟨hx, hb, hml, hown, hts⟩ g_L_238 hdv_X9_loggedPerson hK hST hS hP [0, 1, 2, 3, 4, 5, 6, 7, 8, 9, 10, 11, 12, 13, 14, 15, 16, 17, 18, 19, 20] rfl (k0 := 0) rfl rfl rfl ⟨Nat.le_of_ble_eq_true rfl, Nat.le_of_ble_eq_true rfl⟩ ⟨(by show _ ≤ 524; omega), (by show _ ≤ 3398; omega)⟩ rfl hl.1 rfl (Nat.le_of_ble_eq_true rfl) dL_seen_324 rfl (fun E ce q9 H hE h1 h2 h3 h4 h5 => absurd (hE.1.trans h_74) hE.2) (fun b_73 => ?_)
                  have hP := hP
                  have b_73 := b_73.2
                  have h_75 := hok.1
                  have hok := hok.2
                  refine va_iast hx hb hK hP hD hS 21 0 rfl rfl h_75 dL_seen_327 (fun H locs hP hD hS => ?_)
                  have hP : va_P G.1 vwCl (fl [[(qh0, .inr (11, [.ref (va 0), .ref q_snapshot, .int q.1, .ref q_history, .ref q_program, .ref q_notice, .int q.2.1, .int q.2.2]))], wSt G va v, [cArr G q_1 260 (upd allL ((210 : Int32) + ((3 : Int32) * x2)).toNatClampNeg ((f_X9_loggedPerson q v x2).2))]]) H := hP
                  have hD : va_D A (fl [[(qh0, .inr (11, [.ref (va 0), .ref q_snapshot, .int q.1, .ref q_history, .ref q_program, .ref q_notice, .int q.2.1, .int q.2.2]))], wSt G va v, [cArr G q_1 260 (upd allL ((210 : Int32) + ((3 : Int32) * x2)).toNatClampNeg ((f_X9_loggedPerson q v x2).2))]]) := hD
                  refine lv_aload_n hx hb dL_seen_328 rfl (lv_at hl 1 rfl) ?_
                  refine lv_sipush (v := (211 : Int32)) hx hb dL_seen_329 (by decide) ?_
                  refine lv_iconst (v := (3 : Int32)) hx hb dL_seen_332 (by decide) ?_
                  refine lv_iload_n hx hb dL_seen_333 rfl (lv_at hl 0 rfl) ?_
                  refine lv_imul hx hb dL_seen_334 ?_
                  refine lv_iadd hx hb dL_seen_335 ?_
                  refine lv_aload_n hx hb dL_seen_336 rfl (lv_at hl 2 rfl) ?_
                  refine lv_iload_n hx hb dL_seen_337 rfl (lv_at hl 0 rfl) ?_
                  have h_77 := hok.1
                  have hok := hok.2
                  refine xr_V (own := RL) (v := (some (.int ((f_X9_loggedDoor q v x2).2)))) (st1 := [.int ((f_X9_loggedDoor q v x2).2), .int ((211 : Int32) + ((3 : Int32) * x2)), .ref q_1]) (As := [.int x2]) (rest := [.int ((211 : Int32) + ((3 : Int32) * x2)), .ref q_1]) (c_X9_loggedDoorS l hlf G qh0 q_snapshot q_history q_program q_notice va q v x2) ⟨hx, hb, hml, hown, hts⟩ g_L_241 hdv_X9_loggedDoor hK hST hS hP [0, 1, 2, 3, 4, 5, 6, 7, 8, 9, 10, 11, 12, 13, 14, 15, 16, 17, 18, 19, 20] rfl (k0 := 0) rfl rfl rfl ⟨Nat.le_of_ble_eq_true rfl, Nat.le_of_ble_eq_true rfl⟩ ⟨(by show _ ≤ 524; omega), (by show _ ≤ 3398; omega)⟩ rfl hl.1 rfl (Nat.le_of_ble_eq_true rfl) dL_seen_338 rfl (fun E ce q9 H hE h1 h2 h3 h4 h5 => absurd (hE.1.trans h_77) hE.2) (fun b_76 => ?_)
                  have hP := hP
                  have b_76 := b_76.2
                  have h_78 := hok.1
                  have hok := hok.2
                  refine va_iast hx hb hK hP hD hS 21 0 rfl rfl h_78 dL_seen_341 (fun H locs hP hD hS => ?_)
                  have hP : va_P G.1 vwCl (fl [[(qh0, .inr (11, [.ref (va 0), .ref q_snapshot, .int q.1, .ref q_history, .ref q_program, .ref q_notice, .int q.2.1, .int q.2.2]))], wSt G va v, [cArr G q_1 260 (upd (upd allL ((210 : Int32) + ((3 : Int32) * x2)).toNatClampNeg ((f_X9_loggedPerson q v x2).2)) ((211 : Int32) + ((3 : Int32) * x2)).toNatClampNeg ((f_X9_loggedDoor q v x2).2))]]) H := hP
                  have hD : va_D A (fl [[(qh0, .inr (11, [.ref (va 0), .ref q_snapshot, .int q.1, .ref q_history, .ref q_program, .ref q_notice, .int q.2.1, .int q.2.2]))], wSt G va v, [cArr G q_1 260 (upd (upd allL ((210 : Int32) + ((3 : Int32) * x2)).toNatClampNeg ((f_X9_loggedPerson q v x2).2)) ((211 : Int32) + ((3 : Int32) * x2)).toNatClampNeg ((f_X9_loggedDoor q v x2).2))]]) := hD
                  refine lv_aload_n hx hb dL_seen_342 rfl (lv_at hl 1 rfl) ?_
                  refine lv_sipush (v := (212 : Int32)) hx hb dL_seen_343 (by decide) ?_
                  refine lv_iconst (v := (3 : Int32)) hx hb dL_seen_346 (by decide) ?_
                  refine lv_iload_n hx hb dL_seen_347 rfl (lv_at hl 0 rfl) ?_
                  refine lv_imul hx hb dL_seen_348 ?_
                  refine lv_iadd hx hb dL_seen_349 ?_
                  refine lv_iconst (v := (1 : Int32)) hx hb dL_seen_350 (by decide) ?_
                  refine lv_aload_n hx hb dL_seen_351 rfl (lv_at hl 2 rfl) ?_
                  refine lv_iload_n hx hb dL_seen_352 rfl (lv_at hl 0 rfl) ?_
                  have h_80 := hok.1
                  have hok := hok.2
                  refine xr_V (own := RL) (v := (some (.int ((f_X9_loggedResult q v x2).2)))) (st1 := [.int ((f_X9_loggedResult q v x2).2), .int (1 : Int32), .int ((212 : Int32) + ((3 : Int32) * x2)), .ref q_1]) (As := [.int x2]) (rest := [.int (1 : Int32), .int ((212 : Int32) + ((3 : Int32) * x2)), .ref q_1]) (c_X9_loggedResultS l hlf G qh0 q_snapshot q_history q_program q_notice va q v x2) ⟨hx, hb, hml, hown, hts⟩ g_L_79 hdv_X9_loggedResult hK hST hS hP [0, 1, 2, 3, 4, 5, 6, 7, 8, 9, 10, 11, 12, 13, 14, 15, 16, 17, 18, 19, 20] rfl (k0 := 0) rfl rfl rfl ⟨Nat.le_of_ble_eq_true rfl, Nat.le_of_ble_eq_true rfl⟩ ⟨(by show _ ≤ 524; omega), (by show _ ≤ 3398; omega)⟩ rfl hl.1 rfl (Nat.le_of_ble_eq_true rfl) dL_seen_353 rfl (fun E ce q9 H hE h1 h2 h3 h4 h5 => absurd (hE.1.trans h_80) hE.2) (fun b_79 => ?_)
                  have hP := hP
                  have b_79 := b_79.2
                  refine lv_iadd hx hb dL_seen_356 ?_
                  have h_81 := hok.1
                  have hok := hok.2
                  refine va_iast hx hb hK hP hD hS 21 0 rfl rfl h_81 dL_seen_357 (fun H locs hP hD hS => ?_)
                  have hP : va_P G.1 vwCl (fl [[(qh0, .inr (11, [.ref (va 0), .ref q_snapshot, .int q.1, .ref q_history, .ref q_program, .ref q_notice, .int q.2.1, .int q.2.2]))], wSt G va v, [cArr G q_1 260 (upd (upd (upd allL ((210 : Int32) + ((3 : Int32) * x2)).toNatClampNeg ((f_X9_loggedPerson q v x2).2)) ((211 : Int32) + ((3 : Int32) * x2)).toNatClampNeg ((f_X9_loggedDoor q v x2).2)) ((212 : Int32) + ((3 : Int32) * x2)).toNatClampNeg ((1 : Int32) + (f_X9_loggedResult q v x2).2))]]) H := hP
                  have hD : va_D A (fl [[(qh0, .inr (11, [.ref (va 0), .ref q_snapshot, .int q.1, .ref q_history, .ref q_program, .ref q_notice, .int q.2.1, .int q.2.2]))], wSt G va v, [cArr G q_1 260 (upd (upd (upd allL ((210 : Int32) + ((3 : Int32) * x2)).toNatClampNeg ((f_X9_loggedPerson q v x2).2)) ((211 : Int32) + ((3 : Int32) * x2)).toNatClampNeg ((f_X9_loggedDoor q v x2).2)) ((212 : Int32) + ((3 : Int32) * x2)).toNatClampNeg ((1 : Int32) + (f_X9_loggedResult q v x2).2))]]) := hD
                  refine lv_iinc (v := (x2 + 1)) (lv' := [(2, .int (x2 + 1)), (1, .ref q_1), (0, .ref qh0)]) hx hb dL_seen_358 hl (k := 0) rfl rfl (by decide) rfl (fun ls hl => ?_)
                  refine lv_goto (tgt := 300) hx hb dL_seen_361 (by decide) ?_
                  exact ih (x2 + 1) (upd (upd (upd allL ((210 : Int32) + ((3 : Int32) * x2)).toNatClampNeg ((f_X9_loggedPerson q v x2).2)) ((211 : Int32) + ((3 : Int32) * x2)).toNatClampNeg ((f_X9_loggedDoor q v x2).2)) ((212 : Int32) + ((3 : Int32) * x2)).toNatClampNeg ((1 : Int32) + (f_X9_loggedResult q v x2).2)) _ _ _ _ ls (lv_sub hl [0, 1, 2] rfl) hP hD hS (by omega) (by omega) hI hok
          refine W.widen (k := (463)) (n := (3032)) (Nat.le_of_ble_eq_true rfl) (Nat.le_of_ble_eq_true rfl) ?_
          exact L300 11 (0 : Int32) r_67.2 _ _ (463) (3032) ls (lv_sub hl [0, 1, 2] rfl) hP hD hS (Nat.le_refl _) (Nat.le_refl _) rfl hkI
        have L256 : ∀ (n : Nat) (x2 : Int32) (allL : Nat → Int32) (H : Heap) (locs : List Loc) (kc_256 ks_256 : Nat) (ls : Array Slot), lv_has ls 5 [(2, .int x2), (1, .ref q_1), (0, .ref qh0)] → va_P G.1 vwCl (fl [[(qh0, .inr (11, [.ref (va 0), .ref q_snapshot, .int q.1, .ref q_history, .ref q_program, .ref q_notice, .int q.2.1, .int q.2.2]))], wSt G va v, [cArr G q_1 260 allL]]) H → va_D A (fl [[(qh0, .inr (11, [.ref (va 0), .ref q_snapshot, .int q.1, .ref q_history, .ref q_program, .ref q_notice, .int q.2.1, .int q.2.2]))], wSt G va v, [cArr G q_1 260 allL]]) → va_S A s.heap H locs → kc_256 + n * 2 ≤ (437) + 26 → ks_256 + n * 12 ≤ (2876) + 156 → (lp_L_seen_256 q v r_11 r_44 r_58 13 (0 : Int32) r_58.2) = lp_L_seen_256 q v r_11 r_44 r_58 n x2 allL → okl_lp_L_seen_256 q v r_11 r_44 r_58 n x2 allL → W p l e (rmd 11 524 3398) s m ([.ref qh0] : List Value).toArray below meth c H locs kc_256 ks_256 (MQ below (wQ (fun u : Nat × Nat × (Nat → Int32) => some (.ref u.1)) (fun u : Nat × Nat × (Nat → Int32) => u.2 = f_L_seen q v) (fun u : Nat × Nat × (Nat → Int32) => fl [[(qh0, .inr (11, [.ref (va 0), .ref q_snapshot, .int q.1, .ref q_history, .ref q_program, .ref q_notice, .int q.2.1, .int q.2.2]))], wSt G va v, [(u.1, .inl (G.2.1 0, u.2.1, .inl u.2.2))]]) G.1 A) ([.ref qh0] : List Value).toArray s 524 3398 A) (F0 m 256 ls []) := by
          intro n
          induction n with
          | zero => intro x2 allL H locs kc_256 ks_256 ls hl _ _ _ _ _ hI hok; exact hok.elim
          | succ n ih =>
            intro x2 allL H locs kc_256 ks_256 ls hl hP hD hS hkc_256 hks_256 hI hok
            have hI : (lp_L_seen_256 q v r_11 r_44 r_58 13 (0 : Int32) r_58.2) = (if (f_X9_exceptionCount q v) ≤ x2 then (x2, allL) else (lp_L_seen_256 q v r_11 r_44 r_58 n (x2 + 1) (upd (upd allL ((184 : Int32) + ((2 : Int32) * x2)).toNatClampNeg ((f_X9_exceptionDay q v x2).2)) ((185 : Int32) + ((2 : Int32) * x2)).toNatClampNeg ((f_X9_exceptionDoor q v x2).2)))) := hI
            have hok : (if (f_X9_exceptionCount q v) ≤ x2 then True else ((f_X9_exceptionDay q v x2).1 = "" ∧ (vp_in ((184 : Int32) + ((2 : Int32) * x2)) 260 ∧ ((f_X9_exceptionDoor q v x2).1 = "" ∧ (vp_in ((185 : Int32) + ((2 : Int32) * x2)) 260 ∧ (okl_lp_L_seen_256 q v r_11 r_44 r_58 n (x2 + 1) (upd (upd allL ((184 : Int32) + ((2 : Int32) * x2)).toNatClampNeg ((f_X9_exceptionDay q v x2).2)) ((185 : Int32) + ((2 : Int32) * x2)).toNatClampNeg ((f_X9_exceptionDoor q v x2).2)))))))) := hok
            refine lv_iload_n hx hb dL_seen_256 rfl (lv_at hl 0 rfl) ?_
            refine lv_aload_n hx hb dL_seen_257 rfl (lv_at hl 2 rfl) ?_
            refine r_V (own := RL) (v := (some (.int (f_X9_exceptionCount q v)))) (st1 := [.int (f_X9_exceptionCount q v), .int x2]) (As := []) (rest := [.int x2]) (c_X9_exceptionCountS l G qh0 q_snapshot q_history q_program q_notice va q v) ⟨hx, hb, hml, hown, hts⟩ g_L_152 hdv_X9_exceptionCount hK hST hS hP [0, 1, 2, 3, 4, 5, 6, 7, 8, 9, 10, 11, 12, 13, 14, 15, 16, 17, 18, 19, 20] rfl (k0 := 0) rfl rfl rfl ⟨Nat.le_of_ble_eq_true rfl, Nat.le_of_ble_eq_true rfl⟩ ⟨(by show _ ≤ 524; omega), (by show _ ≤ 3398; omega)⟩ rfl hl.1 rfl (Nat.le_of_ble_eq_true rfl) dL_seen_258 rfl (fun b_59 => ?_)
            refine lv_icmp_ge (tgt := 298) hx hb dL_seen_261 (by decide) (fun c_60 => ?_) (fun c_60 => ?_)
            · have hI := hI.trans (if_pos c_60)
              have hok := Eq.mp (if_pos c_60) hok
              refine W.widen (k := (463)) (n := (3032)) (by omega) (by omega) ?_
              exact K256 _ hI.symm _ _ ls (lv_sub hl [0, 1, 2] rfl) hP hD hS
            · have hI := hI.trans (if_neg c_60)
              have hok := Eq.mp (if_neg c_60) hok
              refine lv_aload_n hx hb dL_seen_264 rfl (lv_at hl 1 rfl) ?_
              refine lv_sipush (v := (184 : Int32)) hx hb dL_seen_265 (by decide) ?_
              refine lv_iconst (v := (2 : Int32)) hx hb dL_seen_268 (by decide) ?_
              refine lv_iload_n hx hb dL_seen_269 rfl (lv_at hl 0 rfl) ?_
              refine lv_imul hx hb dL_seen_270 ?_
              refine lv_iadd hx hb dL_seen_271 ?_
              refine lv_aload_n hx hb dL_seen_272 rfl (lv_at hl 2 rfl) ?_
              refine lv_iload_n hx hb dL_seen_273 rfl (lv_at hl 0 rfl) ?_
              have h_62 := hok.1
              have hok := hok.2
              refine xr_V (own := RL) (v := (some (.int ((f_X9_exceptionDay q v x2).2)))) (st1 := [.int ((f_X9_exceptionDay q v x2).2), .int ((184 : Int32) + ((2 : Int32) * x2)), .ref q_1]) (As := [.int x2]) (rest := [.int ((184 : Int32) + ((2 : Int32) * x2)), .ref q_1]) (c_X9_exceptionDayS l hlf G qh0 q_snapshot q_history q_program q_notice va q v x2) ⟨hx, hb, hml, hown, hts⟩ g_L_41 hdv_X9_exceptionDay hK hST hS hP [0, 1, 2, 3, 4, 5, 6, 7, 8, 9, 10, 11, 12, 13, 14, 15, 16, 17, 18, 19, 20] rfl (k0 := 0) rfl rfl rfl ⟨Nat.le_of_ble_eq_true rfl, Nat.le_of_ble_eq_true rfl⟩ ⟨(by show _ ≤ 524; omega), (by show _ ≤ 3398; omega)⟩ rfl hl.1 rfl (Nat.le_of_ble_eq_true rfl) dL_seen_274 rfl (fun E ce q9 H hE h1 h2 h3 h4 h5 => absurd (hE.1.trans h_62) hE.2) (fun b_61 => ?_)
              have hP := hP
              have b_61 := b_61.2
              have h_63 := hok.1
              have hok := hok.2
              refine va_iast hx hb hK hP hD hS 21 0 rfl rfl h_63 dL_seen_277 (fun H locs hP hD hS => ?_)
              have hP : va_P G.1 vwCl (fl [[(qh0, .inr (11, [.ref (va 0), .ref q_snapshot, .int q.1, .ref q_history, .ref q_program, .ref q_notice, .int q.2.1, .int q.2.2]))], wSt G va v, [cArr G q_1 260 (upd allL ((184 : Int32) + ((2 : Int32) * x2)).toNatClampNeg ((f_X9_exceptionDay q v x2).2))]]) H := hP
              have hD : va_D A (fl [[(qh0, .inr (11, [.ref (va 0), .ref q_snapshot, .int q.1, .ref q_history, .ref q_program, .ref q_notice, .int q.2.1, .int q.2.2]))], wSt G va v, [cArr G q_1 260 (upd allL ((184 : Int32) + ((2 : Int32) * x2)).toNatClampNeg ((f_X9_exceptionDay q v x2).2))]]) := hD
              refine lv_aload_n hx hb dL_seen_278 rfl (lv_at hl 1 rfl) ?_
              refine lv_sipush (v := (185 : Int32)) hx hb dL_seen_279 (by decide) ?_
              refine lv_iconst (v := (2 : Int32)) hx hb dL_seen_282 (by decide) ?_
              refine lv_iload_n hx hb dL_seen_283 rfl (lv_at hl 0 rfl) ?_
              refine lv_imul hx hb dL_seen_284 ?_
              refine lv_iadd hx hb dL_seen_285 ?_
              refine lv_aload_n hx hb dL_seen_286 rfl (lv_at hl 2 rfl) ?_
              refine lv_iload_n hx hb dL_seen_287 rfl (lv_at hl 0 rfl) ?_
              have h_65 := hok.1
              have hok := hok.2
              refine xr_V (own := RL) (v := (some (.int ((f_X9_exceptionDoor q v x2).2)))) (st1 := [.int ((f_X9_exceptionDoor q v x2).2), .int ((185 : Int32) + ((2 : Int32) * x2)), .ref q_1]) (As := [.int x2]) (rest := [.int ((185 : Int32) + ((2 : Int32) * x2)), .ref q_1]) (c_X9_exceptionDoorS l hlf G qh0 q_snapshot q_history q_program q_notice va q v x2) ⟨hx, hb, hml, hown, hts⟩ g_L_35 hdv_X9_exceptionDoor hK hST hS hP [0, 1, 2, 3, 4, 5, 6, 7, 8, 9, 10, 11, 12, 13, 14, 15, 16, 17, 18, 19, 20] rfl (k0 := 0) rfl rfl rfl ⟨Nat.le_of_ble_eq_true rfl, Nat.le_of_ble_eq_true rfl⟩ ⟨(by show _ ≤ 524; omega), (by show _ ≤ 3398; omega)⟩ rfl hl.1 rfl (Nat.le_of_ble_eq_true rfl) dL_seen_288 rfl (fun E ce q9 H hE h1 h2 h3 h4 h5 => absurd (hE.1.trans h_65) hE.2) (fun b_64 => ?_)
              have hP := hP
              have b_64 := b_64.2
              have h_66 := hok.1
              have hok := hok.2
              refine va_iast hx hb hK hP hD hS 21 0 rfl rfl h_66 dL_seen_291 (fun H locs hP hD hS => ?_)
              have hP : va_P G.1 vwCl (fl [[(qh0, .inr (11, [.ref (va 0), .ref q_snapshot, .int q.1, .ref q_history, .ref q_program, .ref q_notice, .int q.2.1, .int q.2.2]))], wSt G va v, [cArr G q_1 260 (upd (upd allL ((184 : Int32) + ((2 : Int32) * x2)).toNatClampNeg ((f_X9_exceptionDay q v x2).2)) ((185 : Int32) + ((2 : Int32) * x2)).toNatClampNeg ((f_X9_exceptionDoor q v x2).2))]]) H := hP
              have hD : va_D A (fl [[(qh0, .inr (11, [.ref (va 0), .ref q_snapshot, .int q.1, .ref q_history, .ref q_program, .ref q_notice, .int q.2.1, .int q.2.2]))], wSt G va v, [cArr G q_1 260 (upd (upd allL ((184 : Int32) + ((2 : Int32) * x2)).toNatClampNeg ((f_X9_exceptionDay q v x2).2)) ((185 : Int32) + ((2 : Int32) * x2)).toNatClampNeg ((f_X9_exceptionDoor q v x2).2))]]) := hD
              refine lv_iinc (v := (x2 + 1)) (lv' := [(2, .int (x2 + 1)), (1, .ref q_1), (0, .ref qh0)]) hx hb dL_seen_292 hl (k := 0) rfl rfl (by decide) rfl (fun ls hl => ?_)
              refine lv_goto (tgt := 256) hx hb dL_seen_295 (by decide) ?_
              exact ih (x2 + 1) (upd (upd allL ((184 : Int32) + ((2 : Int32) * x2)).toNatClampNeg ((f_X9_exceptionDay q v x2).2)) ((185 : Int32) + ((2 : Int32) * x2)).toNatClampNeg ((f_X9_exceptionDoor q v x2).2)) _ _ _ _ ls (lv_sub hl [0, 1, 2] rfl) hP hD hS (by omega) (by omega) hI hok
        refine W.widen (k := (437)) (n := (2876)) (Nat.le_of_ble_eq_true rfl) (Nat.le_of_ble_eq_true rfl) ?_
        exact L256 13 (0 : Int32) r_58.2 _ _ (437) (2876) ls (lv_sub hl [0, 1, 2] rfl) hP hD hS (Nat.le_refl _) (Nat.le_refl _) rfl hkI
      have L184 : ∀ (n : Nat) (x2 : Int32) (allL : Nat → Int32) (H : Heap) (locs : List Loc) (kc_184 ks_184 : Nat) (ls : Array Slot), lv_has ls 5 [(2, .int x2), (1, .ref q_1), (0, .ref qh0)] → va_P G.1 vwCl (fl [[(qh0, .inr (11, [.ref (va 0), .ref q_snapshot, .int q.1, .ref q_history, .ref q_program, .ref q_notice, .int q.2.1, .int q.2.2]))], wSt G va v, [cArr G q_1 260 allL]]) H → va_D A (fl [[(qh0, .inr (11, [.ref (va 0), .ref q_snapshot, .int q.1, .ref q_history, .ref q_program, .ref q_notice, .int q.2.1, .int q.2.2]))], wSt G va v, [cArr G q_1 260 allL]]) → va_S A s.heap H locs → kc_184 + n * 10 ≤ (367) + 70 → ks_184 + n * 60 ≤ (2456) + 420 → (lp_L_seen_184 q v r_11 r_44 7 (0 : Int32) r_44.2) = lp_L_seen_184 q v r_11 r_44 n x2 allL → okl_lp_L_seen_184 q v r_11 r_44 n x2 allL → W p l e (rmd 11 524 3398) s m ([.ref qh0] : List Value).toArray below meth c H locs kc_184 ks_184 (MQ below (wQ (fun u : Nat × Nat × (Nat → Int32) => some (.ref u.1)) (fun u : Nat × Nat × (Nat → Int32) => u.2 = f_L_seen q v) (fun u : Nat × Nat × (Nat → Int32) => fl [[(qh0, .inr (11, [.ref (va 0), .ref q_snapshot, .int q.1, .ref q_history, .ref q_program, .ref q_notice, .int q.2.1, .int q.2.2]))], wSt G va v, [(u.1, .inl (G.2.1 0, u.2.1, .inl u.2.2))]]) G.1 A) ([.ref qh0] : List Value).toArray s 524 3398 A) (F0 m 184 ls []) := by
        intro n
        induction n with
        | zero => intro x2 allL H locs kc_184 ks_184 ls hl _ _ _ _ _ hI hok; exact hok.elim
        | succ n ih =>
          intro x2 allL H locs kc_184 ks_184 ls hl hP hD hS hkc_184 hks_184 hI hok
          have hI : (lp_L_seen_184 q v r_11 r_44 7 (0 : Int32) r_44.2) = (if (f_X9_personCount q v) ≤ x2 then (x2, allL) else (let r_57 : Int32 × (Nat → Int32) := (lp_L_seen_208 q v r_11 r_44 x2 allL 9 (0 : Int32) (upd allL ((170 : Int32) + ((2 : Int32) * x2)).toNatClampNeg ((f_X9_entriesOf q v x2).2))); (lp_L_seen_184 q v r_11 r_44 n (x2 + 1) r_57.2))) := hI
          have hok : (if (f_X9_personCount q v) ≤ x2 then True else ((f_X9_entriesOf q v x2).1 = "" ∧ (vp_in ((170 : Int32) + ((2 : Int32) * x2)) 260 ∧ (okl_lp_L_seen_208 q v r_11 r_44 x2 allL 9 (0 : Int32) (upd allL ((170 : Int32) + ((2 : Int32) * x2)).toNatClampNeg ((f_X9_entriesOf q v x2).2)) ∧ (∀ r_57 : Int32 × (Nat → Int32), r_57 = (lp_L_seen_208 q v r_11 r_44 x2 allL 9 (0 : Int32) (upd allL ((170 : Int32) + ((2 : Int32) * x2)).toNatClampNeg ((f_X9_entriesOf q v x2).2))) → (okl_lp_L_seen_184 q v r_11 r_44 n (x2 + 1) r_57.2)))))) := hok
          refine lv_iload_n hx hb dL_seen_184 rfl (lv_at hl 0 rfl) ?_
          refine lv_aload_n hx hb dL_seen_185 rfl (lv_at hl 2 rfl) ?_
          refine r_V (own := RL) (v := (some (.int (f_X9_personCount q v)))) (st1 := [.int (f_X9_personCount q v), .int x2]) (As := []) (rest := [.int x2]) (c_X9_personCountS l G qh0 q_snapshot q_history q_program q_notice va q v) ⟨hx, hb, hml, hown, hts⟩ g_L_205 hdv_X9_personCount hK hST hS hP [0, 1, 2, 3, 4, 5, 6, 7, 8, 9, 10, 11, 12, 13, 14, 15, 16, 17, 18, 19, 20] rfl (k0 := 0) rfl rfl rfl ⟨Nat.le_of_ble_eq_true rfl, Nat.le_of_ble_eq_true rfl⟩ ⟨(by show _ ≤ 524; omega), (by show _ ≤ 3398; omega)⟩ rfl hl.1 rfl (Nat.le_of_ble_eq_true rfl) dL_seen_186 rfl (fun b_45 => ?_)
          refine lv_icmp_ge (tgt := 254) hx hb dL_seen_189 (by decide) (fun c_46 => ?_) (fun c_46 => ?_)
          · have hI := hI.trans (if_pos c_46)
            have hok := Eq.mp (if_pos c_46) hok
            refine W.widen (k := (437)) (n := (2876)) (by omega) (by omega) ?_
            exact K184 _ hI.symm _ _ ls (lv_sub hl [0, 1, 2] rfl) hP hD hS
          · have hI := hI.trans (if_neg c_46)
            have hok := Eq.mp (if_neg c_46) hok
            refine lv_aload_n hx hb dL_seen_192 rfl (lv_at hl 1 rfl) ?_
            refine lv_sipush (v := (170 : Int32)) hx hb dL_seen_193 (by decide) ?_
            refine lv_iconst (v := (2 : Int32)) hx hb dL_seen_196 (by decide) ?_
            refine lv_iload_n hx hb dL_seen_197 rfl (lv_at hl 0 rfl) ?_
            refine lv_imul hx hb dL_seen_198 ?_
            refine lv_iadd hx hb dL_seen_199 ?_
            refine lv_aload_n hx hb dL_seen_200 rfl (lv_at hl 2 rfl) ?_
            refine lv_iload_n hx hb dL_seen_201 rfl (lv_at hl 0 rfl) ?_
            have h_48 := hok.1
            have hok := hok.2
            refine xr_V (own := RL) (v := (some (.int ((f_X9_entriesOf q v x2).2)))) (st1 := [.int ((f_X9_entriesOf q v x2).2), .int ((170 : Int32) + ((2 : Int32) * x2)), .ref q_1]) (As := [.int x2]) (rest := [.int ((170 : Int32) + ((2 : Int32) * x2)), .ref q_1]) (c_X9_entriesOfS l hlf G qh0 q_snapshot q_history q_program q_notice va q v x2) ⟨hx, hb, hml, hown, hts⟩ g_L_230 hdv_X9_entriesOf hK hST hS hP [0, 1, 2, 3, 4, 5, 6, 7, 8, 9, 10, 11, 12, 13, 14, 15, 16, 17, 18, 19, 20] rfl (k0 := 0) rfl rfl rfl ⟨Nat.le_of_ble_eq_true rfl, Nat.le_of_ble_eq_true rfl⟩ ⟨(by show _ ≤ 524; omega), (by show _ ≤ 3398; omega)⟩ rfl hl.1 rfl (Nat.le_of_ble_eq_true rfl) dL_seen_202 rfl (fun E ce q9 H hE h1 h2 h3 h4 h5 => absurd (hE.1.trans h_48) hE.2) (fun b_47 => ?_)
            have hP := hP
            have b_47 := b_47.2
            have h_49 := hok.1
            have hok := hok.2
            refine va_iast hx hb hK hP hD hS 21 0 rfl rfl h_49 dL_seen_205 (fun H locs hP hD hS => ?_)
            have hP : va_P G.1 vwCl (fl [[(qh0, .inr (11, [.ref (va 0), .ref q_snapshot, .int q.1, .ref q_history, .ref q_program, .ref q_notice, .int q.2.1, .int q.2.2]))], wSt G va v, [cArr G q_1 260 (upd allL ((170 : Int32) + ((2 : Int32) * x2)).toNatClampNeg ((f_X9_entriesOf q v x2).2))]]) H := hP
            have hD : va_D A (fl [[(qh0, .inr (11, [.ref (va 0), .ref q_snapshot, .int q.1, .ref q_history, .ref q_program, .ref q_notice, .int q.2.1, .int q.2.2]))], wSt G va v, [cArr G q_1 260 (upd allL ((170 : Int32) + ((2 : Int32) * x2)).toNatClampNeg ((f_X9_entriesOf q v x2).2))]]) := hD
            refine lv_iconst (v := (0 : Int32)) hx hb dL_seen_206 (by decide) ?_
            refine lv_istore_n (lv' := [(3, .int (0 : Int32)), (2, .int x2), (1, .ref q_1), (0, .ref qh0)]) hx hb dL_seen_207 rfl hl (by decide) rfl (fun ls hl => ?_)
            have hkI := hok.1
            have hok := hok.2
            have K208 : ∀ (r_57 : Int32 × (Nat → Int32)), r_57 = (lp_L_seen_208 q v r_11 r_44 x2 allL 9 (0 : Int32) (upd allL ((170 : Int32) + ((2 : Int32) * x2)).toNatClampNeg ((f_X9_entriesOf q v x2).2))) → ∀ (H : Heap) (locs : List Loc), ∀ (ls : Array Slot), lv_has ls 5 [(3, .int r_57.1), (2, .int x2), (1, .ref q_1), (0, .ref qh0)] → va_P G.1 vwCl (fl [[(qh0, .inr (11, [.ref (va 0), .ref q_snapshot, .int q.1, .ref q_history, .ref q_program, .ref q_notice, .int q.2.1, .int q.2.2]))], wSt G va v, [cArr G q_1 260 r_57.2]]) H → va_D A (fl [[(qh0, .inr (11, [.ref (va 0), .ref q_snapshot, .int q.1, .ref q_history, .ref q_program, .ref q_notice, .int q.2.1, .int q.2.2]))], wSt G va v, [cArr G q_1 260 r_57.2]]) → va_S A s.heap H locs → W p l e (rmd 11 524 3398) s m ([.ref qh0] : List Value).toArray below meth c H locs (kc_184 + 10) (ks_184 + 60) (MQ below (wQ (fun u : Nat × Nat × (Nat → Int32) => some (.ref u.1)) (fun u : Nat × Nat × (Nat → Int32) => u.2 = f_L_seen q v) (fun u : Nat × Nat × (Nat → Int32) => fl [[(qh0, .inr (11, [.ref (va 0), .ref q_snapshot, .int q.1, .ref q_history, .ref q_program, .ref q_notice, .int q.2.1, .int q.2.2]))], wSt G va v, [(u.1, .inl (G.2.1 0, u.2.1, .inl u.2.2))]]) G.1 A) ([.ref qh0] : List Value).toArray s 524 3398 A) (F0 m 248 ls []) := by
              intro r_57 er_57 H locs ls hl hP hD hS
              have hI : (lp_L_seen_184 q v r_11 r_44 7 (0 : Int32) r_44.2) = (lp_L_seen_184 q v r_11 r_44 n (x2 + 1) r_57.2) := by subst er_57; exact hI
              have hok : (okl_lp_L_seen_184 q v r_11 r_44 n (x2 + 1) r_57.2) := hok _ er_57
              refine lv_iinc (v := (x2 + 1)) (lv' := [(2, .int (x2 + 1)), (3, .int r_57.1), (1, .ref q_1), (0, .ref qh0)]) hx hb dL_seen_248 hl (k := 1) rfl rfl (by decide) rfl (fun ls hl => ?_)
              refine lv_goto (tgt := 184) hx hb dL_seen_251 (by decide) ?_
              exact ih (x2 + 1) r_57.2 _ _ _ _ ls (lv_sub hl [0, 2, 3] rfl) hP hD hS (by omega) (by omega) hI hok
            have L208 : ∀ (n : Nat) (x3 : Int32) (allL' : Nat → Int32) (H : Heap) (locs : List Loc) (kc_208 ks_208 : Nat) (ls : Array Slot), lv_has ls 5 [(3, .int x3), (2, .int x2), (1, .ref q_1), (0, .ref qh0)] → va_P G.1 vwCl (fl [[(qh0, .inr (11, [.ref (va 0), .ref q_snapshot, .int q.1, .ref q_history, .ref q_program, .ref q_notice, .int q.2.1, .int q.2.2]))], wSt G va v, [cArr G q_1 260 allL']]) H → va_D A (fl [[(qh0, .inr (11, [.ref (va 0), .ref q_snapshot, .int q.1, .ref q_history, .ref q_program, .ref q_notice, .int q.2.1, .int q.2.2]))], wSt G va v, [cArr G q_1 260 allL']]) → va_S A s.heap H locs → kc_208 + n * 1 ≤ (kc_184 + 1) + 9 → ks_208 + n * 6 ≤ (ks_184 + 6) + 54 → (lp_L_seen_208 q v r_11 r_44 x2 allL 9 (0 : Int32) (upd allL ((170 : Int32) + ((2 : Int32) * x2)).toNatClampNeg ((f_X9_entriesOf q v x2).2))) = lp_L_seen_208 q v r_11 r_44 x2 allL n x3 allL' → okl_lp_L_seen_208 q v r_11 r_44 x2 allL n x3 allL' → W p l e (rmd 11 524 3398) s m ([.ref qh0] : List Value).toArray below meth c H locs kc_208 ks_208 (MQ below (wQ (fun u : Nat × Nat × (Nat → Int32) => some (.ref u.1)) (fun u : Nat × Nat × (Nat → Int32) => u.2 = f_L_seen q v) (fun u : Nat × Nat × (Nat → Int32) => fl [[(qh0, .inr (11, [.ref (va 0), .ref q_snapshot, .int q.1, .ref q_history, .ref q_program, .ref q_notice, .int q.2.1, .int q.2.2]))], wSt G va v, [(u.1, .inl (G.2.1 0, u.2.1, .inl u.2.2))]]) G.1 A) ([.ref qh0] : List Value).toArray s 524 3398 A) (F0 m 208 ls []) := by
              intro n
              induction n with
              | zero => intro x3 allL' H locs kc_208 ks_208 ls hl _ _ _ _ _ hI hok; exact hok.elim
              | succ n ih =>
                intro x3 allL' H locs kc_208 ks_208 ls hl hP hD hS hkc_208 hks_208 hI hok
                have hI : (lp_L_seen_208 q v r_11 r_44 x2 allL 9 (0 : Int32) (upd allL ((170 : Int32) + ((2 : Int32) * x2)).toNatClampNeg ((f_X9_entriesOf q v x2).2))) = (if (8 : Int32) ≤ x3 then (x3, allL') else (if (f_X9_hasKey q v x2 x3).2 = (0 : Int32) then (lp_L_seen_208 q v r_11 r_44 x2 allL n (x3 + 1) (upd allL' ((171 : Int32) + ((2 : Int32) * x2)).toNatClampNeg ((allL' ((171 : Int32) + ((2 : Int32) * x2)).toNatClampNeg) + (0 : Int32)))) else (lp_L_seen_208 q v r_11 r_44 x2 allL n (x3 + 1) (upd allL' ((171 : Int32) + ((2 : Int32) * x2)).toNatClampNeg ((allL' ((171 : Int32) + ((2 : Int32) * x2)).toNatClampNeg) + ((1 : Int32) <<< (x3 &&& 31))))))) := hI
                have hok : (if (8 : Int32) ≤ x3 then True else (vp_in ((171 : Int32) + ((2 : Int32) * x2)) 260 ∧ ((f_X9_hasKey q v x2 x3).1 = "" ∧ (if (f_X9_hasKey q v x2 x3).2 = (0 : Int32) then (vp_in ((171 : Int32) + ((2 : Int32) * x2)) 260 ∧ (okl_lp_L_seen_208 q v r_11 r_44 x2 allL n (x3 + 1) (upd allL' ((171 : Int32) + ((2 : Int32) * x2)).toNatClampNeg ((allL' ((171 : Int32) + ((2 : Int32) * x2)).toNatClampNeg) + (0 : Int32))))) else (vp_in ((171 : Int32) + ((2 : Int32) * x2)) 260 ∧ (okl_lp_L_seen_208 q v r_11 r_44 x2 allL n (x3 + 1) (upd allL' ((171 : Int32) + ((2 : Int32) * x2)).toNatClampNeg ((allL' ((171 : Int32) + ((2 : Int32) * x2)).toNatClampNeg) + ((1 : Int32) <<< (x3 &&& 31)))))))))) := hok
                refine lv_iload_n hx hb dL_seen_208 rfl (lv_at hl 0 rfl) ?_
                refine lv_bipush (v := (8 : Int32)) hx hb dL_seen_209 (by decide) ?_
                refine lv_icmp_ge (tgt := 248) hx hb dL_seen_211 (by decide) (fun c_50 => ?_) (fun c_50 => ?_)
                · have hI := hI.trans (if_pos c_50)
                  have hok := Eq.mp (if_pos c_50) hok
                  refine W.widen (k := (kc_184 + 10)) (n := (ks_184 + 60)) (by omega) (by omega) ?_
                  exact K208 _ hI.symm _ _ ls (lv_sub hl [0, 1, 2, 3] rfl) hP hD hS
                · have hI := hI.trans (if_neg c_50)
                  have hok := Eq.mp (if_neg c_50) hok
                  refine lv_aload_n hx hb dL_seen_214 rfl (lv_at hl 2 rfl) ?_
                  refine lv_sipush (v := (171 : Int32)) hx hb dL_seen_215 (by decide) ?_
                  refine lv_iconst (v := (2 : Int32)) hx hb dL_seen_218 (by decide) ?_
                  refine lv_iload_n hx hb dL_seen_219 rfl (lv_at hl 1 rfl) ?_
                  refine lv_imul hx hb dL_seen_220 ?_
                  refine lv_iadd hx hb dL_seen_221 ?_
                  refine lv_dup2_11 hx hb dL_seen_222 rfl rfl ?_
                  have h_51 := hok.1
                  have hok := hok.2
                  refine va_iald hx hb hK hP 21 0 rfl rfl h_51 dL_seen_223 ?_
                  refine lv_aload_n hx hb dL_seen_224 rfl (lv_at hl 3 rfl) ?_
                  refine lv_iload_n hx hb dL_seen_225 rfl (lv_at hl 1 rfl) ?_
                  refine lv_iload_n hx hb dL_seen_226 rfl (lv_at hl 0 rfl) ?_
                  have h_53 := hok.1
                  have hok := hok.2
                  refine xr_V (own := RL) (v := (some (.int ((f_X9_hasKey q v x2 x3).2)))) (st1 := [.int ((f_X9_hasKey q v x2 x3).2), .int (allL' ((171 : Int32) + ((2 : Int32) * x2)).toNatClampNeg), .int ((171 : Int32) + ((2 : Int32) * x2)), .ref q_1]) (As := [.int x2, .int x3]) (rest := [.int (allL' ((171 : Int32) + ((2 : Int32) * x2)).toNatClampNeg), .int ((171 : Int32) + ((2 : Int32) * x2)), .ref q_1]) (c_X9_hasKeyS l hlf G qh0 q_snapshot q_history q_program q_notice va q v x2 x3) ⟨hx, hb, hml, hown, hts⟩ g_L_233 hdv_X9_hasKey hK hST hS hP [0, 1, 2, 3, 4, 5, 6, 7, 8, 9, 10, 11, 12, 13, 14, 15, 16, 17, 18, 19, 20] rfl (k0 := 0) rfl rfl rfl ⟨Nat.le_of_ble_eq_true rfl, Nat.le_of_ble_eq_true rfl⟩ ⟨(by show _ ≤ 524; omega), (by show _ ≤ 3398; omega)⟩ rfl hl.1 rfl (Nat.le_of_ble_eq_true rfl) dL_seen_227 rfl (fun E ce q9 H hE h1 h2 h3 h4 h5 => absurd (hE.1.trans h_53) hE.2) (fun b_52 => ?_)
                  have hP := hP
                  have b_52 := b_52.2
                  refine lv_if_eq (tgt := 239) hx hb dL_seen_230 (by decide) (fun c_54 => ?_) (fun c_54 => ?_)
                  · have hI := hI.trans (if_pos c_54)
                    have hok := Eq.mp (if_pos c_54) hok
                    refine lv_iconst (v := (0 : Int32)) hx hb dL_seen_239 (by decide) ?_
                    refine lv_iadd hx hb dL_seen_240 ?_
                    have h_55 := hok.1
                    have hok := hok.2
                    refine va_iast hx hb hK hP hD hS 21 0 rfl rfl h_55 dL_seen_241 (fun H locs hP hD hS => ?_)
                    have hP : va_P G.1 vwCl (fl [[(qh0, .inr (11, [.ref (va 0), .ref q_snapshot, .int q.1, .ref q_history, .ref q_program, .ref q_notice, .int q.2.1, .int q.2.2]))], wSt G va v, [cArr G q_1 260 (upd allL' ((171 : Int32) + ((2 : Int32) * x2)).toNatClampNeg ((allL' ((171 : Int32) + ((2 : Int32) * x2)).toNatClampNeg) + (0 : Int32)))]]) H := hP
                    have hD : va_D A (fl [[(qh0, .inr (11, [.ref (va 0), .ref q_snapshot, .int q.1, .ref q_history, .ref q_program, .ref q_notice, .int q.2.1, .int q.2.2]))], wSt G va v, [cArr G q_1 260 (upd allL' ((171 : Int32) + ((2 : Int32) * x2)).toNatClampNeg ((allL' ((171 : Int32) + ((2 : Int32) * x2)).toNatClampNeg) + (0 : Int32)))]]) := hD
                    refine lv_iinc (v := (x3 + 1)) (lv' := [(3, .int (x3 + 1)), (2, .int x2), (1, .ref q_1), (0, .ref qh0)]) hx hb dL_seen_242 hl (k := 0) rfl rfl (by decide) rfl (fun ls hl => ?_)
                    refine lv_goto (tgt := 208) hx hb dL_seen_245 (by decide) ?_
                    exact ih (x3 + 1) (upd allL' ((171 : Int32) + ((2 : Int32) * x2)).toNatClampNeg ((allL' ((171 : Int32) + ((2 : Int32) * x2)).toNatClampNeg) + (0 : Int32))) _ _ _ _ ls (lv_sub hl [0, 1, 2, 3] rfl) hP hD hS (by omega) (by omega) hI hok
                  · have hI := hI.trans (if_neg c_54)
                    have hok := Eq.mp (if_neg c_54) hok
                    refine lv_iconst (v := (1 : Int32)) hx hb dL_seen_233 (by decide) ?_
                    refine lv_iload_n hx hb dL_seen_234 rfl (lv_at hl 0 rfl) ?_
                    refine lv_ishl hx hb dL_seen_235 ?_
                    refine lv_goto (tgt := 240) hx hb dL_seen_236 (by decide) ?_
                    refine lv_iadd hx hb dL_seen_240 ?_
                    have h_56 := hok.1
                    have hok := hok.2
                    refine va_iast hx hb hK hP hD hS 21 0 rfl rfl h_56 dL_seen_241 (fun H locs hP hD hS => ?_)
                    have hP : va_P G.1 vwCl (fl [[(qh0, .inr (11, [.ref (va 0), .ref q_snapshot, .int q.1, .ref q_history, .ref q_program, .ref q_notice, .int q.2.1, .int q.2.2]))], wSt G va v, [cArr G q_1 260 (upd allL' ((171 : Int32) + ((2 : Int32) * x2)).toNatClampNeg ((allL' ((171 : Int32) + ((2 : Int32) * x2)).toNatClampNeg) + ((1 : Int32) <<< (x3 &&& 31))))]]) H := hP
                    have hD : va_D A (fl [[(qh0, .inr (11, [.ref (va 0), .ref q_snapshot, .int q.1, .ref q_history, .ref q_program, .ref q_notice, .int q.2.1, .int q.2.2]))], wSt G va v, [cArr G q_1 260 (upd allL' ((171 : Int32) + ((2 : Int32) * x2)).toNatClampNeg ((allL' ((171 : Int32) + ((2 : Int32) * x2)).toNatClampNeg) + ((1 : Int32) <<< (x3 &&& 31))))]]) := hD
                    refine lv_iinc (v := (x3 + 1)) (lv' := [(3, .int (x3 + 1)), (2, .int x2), (1, .ref q_1), (0, .ref qh0)]) hx hb dL_seen_242 hl (k := 0) rfl rfl (by decide) rfl (fun ls hl => ?_)
                    refine lv_goto (tgt := 208) hx hb dL_seen_245 (by decide) ?_
                    exact ih (x3 + 1) (upd allL' ((171 : Int32) + ((2 : Int32) * x2)).toNatClampNeg ((allL' ((171 : Int32) + ((2 : Int32) * x2)).toNatClampNeg) + ((1 : Int32) <<< (x3 &&& 31)))) _ _ _ _ ls (lv_sub hl [0, 1, 2, 3] rfl) hP hD hS (by omega) (by omega) hI hok
            refine W.widen (k := (kc_184 + 1)) (n := (ks_184 + 6)) (by omega) (by omega) ?_
            exact L208 9 (0 : Int32) (upd allL ((170 : Int32) + ((2 : Int32) * x2)).toNatClampNeg ((f_X9_entriesOf q v x2).2)) _ _ (kc_184 + 1) (ks_184 + 6) ls (lv_sub hl [0, 1, 2, 3] rfl) hP hD hS (Nat.le_refl _) (Nat.le_refl _) rfl hkI
      refine W.widen (k := (367)) (n := (2456)) (Nat.le_of_ble_eq_true rfl) (Nat.le_of_ble_eq_true rfl) ?_
      exact L184 7 (0 : Int32) r_44.2 _ _ (367) (2456) ls (lv_sub hl [0, 1, 2] rfl) hP hD hS (Nat.le_refl _) (Nat.le_refl _) rfl hkI
    have L67 : ∀ (n : Nat) (x2 : Int32) (allL : Nat → Int32) (H : Heap) (locs : List Loc) (kc_67 ks_67 : Nat) (ls : Array Slot), lv_has ls 5 [(2, .int x2), (1, .ref q_1), (0, .ref qh0)] → va_P G.1 vwCl (fl [[(qh0, .inr (11, [.ref (va 0), .ref q_snapshot, .int q.1, .ref q_history, .ref q_program, .ref q_notice, .int q.2.1, .int q.2.2]))], wSt G va v, [cArr G q_1 260 allL]]) H → va_D A (fl [[(qh0, .inr (11, [.ref (va 0), .ref q_snapshot, .int q.1, .ref q_history, .ref q_program, .ref q_notice, .int q.2.1, .int q.2.2]))], wSt G va v, [cArr G q_1 260 allL]]) → va_S A s.heap H locs → kc_67 + n * 40 ≤ (7) + 360 → ks_67 + n * 240 ≤ (296) + 2160 → (lp_L_seen_67 q v r_11 9 (0 : Int32) r_11.2) = lp_L_seen_67 q v r_11 n x2 allL → okl_lp_L_seen_67 q v r_11 n x2 allL → W p l e (rmd 11 524 3398) s m ([.ref qh0] : List Value).toArray below meth c H locs kc_67 ks_67 (MQ below (wQ (fun u : Nat × Nat × (Nat → Int32) => some (.ref u.1)) (fun u : Nat × Nat × (Nat → Int32) => u.2 = f_L_seen q v) (fun u : Nat × Nat × (Nat → Int32) => fl [[(qh0, .inr (11, [.ref (va 0), .ref q_snapshot, .int q.1, .ref q_history, .ref q_program, .ref q_notice, .int q.2.1, .int q.2.2]))], wSt G va v, [(u.1, .inl (G.2.1 0, u.2.1, .inl u.2.2))]]) G.1 A) ([.ref qh0] : List Value).toArray s 524 3398 A) (F0 m 67 ls []) := by
      intro n
      induction n with
      | zero => intro x2 allL H locs kc_67 ks_67 ls hl _ _ _ _ _ hI hok; exact hok.elim
      | succ n ih =>
        intro x2 allL H locs kc_67 ks_67 ls hl hP hD hS hkc_67 hks_67 hI hok
        have hI : (lp_L_seen_67 q v r_11 9 (0 : Int32) r_11.2) = (if (f_X9_doorCount q v) ≤ x2 then (x2, allL) else (if (f_X9_isUnlocked q v x2).2 = (0 : Int32) then (let r_34 : Int32 × (Nat → Int32) := (lp_L_seen_132 q v r_11 x2 allL 9 (0 : Int32) (upd (upd (upd (upd allL ((10 : Int32) + ((20 : Int32) * x2)).toNatClampNeg ((f_X9_phasesOf q v x2).2)) (((10 : Int32) + ((20 : Int32) * x2)) + (1 : Int32)).toNatClampNeg ((f_X9_keyOf q v x2).2)) (((10 : Int32) + ((20 : Int32) * x2)) + (2 : Int32)).toNatClampNeg ((f_X9_hourCount q v x2).2)) (((10 : Int32) + ((20 : Int32) * x2)) + (3 : Int32)).toNatClampNeg (0 : Int32))); (lp_L_seen_67 q v r_11 n (x2 + 1) r_34.2)) else (let r_43 : Int32 × (Nat → Int32) := (lp_L_seen_132' q v r_11 x2 allL 9 (0 : Int32) (upd (upd (upd (upd allL ((10 : Int32) + ((20 : Int32) * x2)).toNatClampNeg ((f_X9_phasesOf q v x2).2)) (((10 : Int32) + ((20 : Int32) * x2)) + (1 : Int32)).toNatClampNeg ((f_X9_keyOf q v x2).2)) (((10 : Int32) + ((20 : Int32) * x2)) + (2 : Int32)).toNatClampNeg ((f_X9_hourCount q v x2).2)) (((10 : Int32) + ((20 : Int32) * x2)) + (3 : Int32)).toNatClampNeg (1 : Int32))); (lp_L_seen_67 q v r_11 n (x2 + 1) r_43.2)))) := hI
        have hok : (if (f_X9_doorCount q v) ≤ x2 then True else ((f_X9_phasesOf q v x2).1 = "" ∧ (vp_in ((10 : Int32) + ((20 : Int32) * x2)) 260 ∧ ((f_X9_keyOf q v x2).1 = "" ∧ (vp_in (((10 : Int32) + ((20 : Int32) * x2)) + (1 : Int32)) 260 ∧ ((f_X9_hourCount q v x2).1 = "" ∧ (vp_in (((10 : Int32) + ((20 : Int32) * x2)) + (2 : Int32)) 260 ∧ ((f_X9_isUnlocked q v x2).1 = "" ∧ (if (f_X9_isUnlocked q v x2).2 = (0 : Int32) then (vp_in (((10 : Int32) + ((20 : Int32) * x2)) + (3 : Int32)) 260 ∧ (okl_lp_L_seen_132 q v r_11 x2 allL 9 (0 : Int32) (upd (upd (upd (upd allL ((10 : Int32) + ((20 : Int32) * x2)).toNatClampNeg ((f_X9_phasesOf q v x2).2)) (((10 : Int32) + ((20 : Int32) * x2)) + (1 : Int32)).toNatClampNeg ((f_X9_keyOf q v x2).2)) (((10 : Int32) + ((20 : Int32) * x2)) + (2 : Int32)).toNatClampNeg ((f_X9_hourCount q v x2).2)) (((10 : Int32) + ((20 : Int32) * x2)) + (3 : Int32)).toNatClampNeg (0 : Int32)) ∧ (∀ r_34 : Int32 × (Nat → Int32), r_34 = (lp_L_seen_132 q v r_11 x2 allL 9 (0 : Int32) (upd (upd (upd (upd allL ((10 : Int32) + ((20 : Int32) * x2)).toNatClampNeg ((f_X9_phasesOf q v x2).2)) (((10 : Int32) + ((20 : Int32) * x2)) + (1 : Int32)).toNatClampNeg ((f_X9_keyOf q v x2).2)) (((10 : Int32) + ((20 : Int32) * x2)) + (2 : Int32)).toNatClampNeg ((f_X9_hourCount q v x2).2)) (((10 : Int32) + ((20 : Int32) * x2)) + (3 : Int32)).toNatClampNeg (0 : Int32))) → (okl_lp_L_seen_67 q v r_11 n (x2 + 1) r_34.2)))) else (vp_in (((10 : Int32) + ((20 : Int32) * x2)) + (3 : Int32)) 260 ∧ (okl_lp_L_seen_132' q v r_11 x2 allL 9 (0 : Int32) (upd (upd (upd (upd allL ((10 : Int32) + ((20 : Int32) * x2)).toNatClampNeg ((f_X9_phasesOf q v x2).2)) (((10 : Int32) + ((20 : Int32) * x2)) + (1 : Int32)).toNatClampNeg ((f_X9_keyOf q v x2).2)) (((10 : Int32) + ((20 : Int32) * x2)) + (2 : Int32)).toNatClampNeg ((f_X9_hourCount q v x2).2)) (((10 : Int32) + ((20 : Int32) * x2)) + (3 : Int32)).toNatClampNeg (1 : Int32)) ∧ (∀ r_43 : Int32 × (Nat → Int32), r_43 = (lp_L_seen_132' q v r_11 x2 allL 9 (0 : Int32) (upd (upd (upd (upd allL ((10 : Int32) + ((20 : Int32) * x2)).toNatClampNeg ((f_X9_phasesOf q v x2).2)) (((10 : Int32) + ((20 : Int32) * x2)) + (1 : Int32)).toNatClampNeg ((f_X9_keyOf q v x2).2)) (((10 : Int32) + ((20 : Int32) * x2)) + (2 : Int32)).toNatClampNeg ((f_X9_hourCount q v x2).2)) (((10 : Int32) + ((20 : Int32) * x2)) + (3 : Int32)).toNatClampNeg (1 : Int32))) → (okl_lp_L_seen_67 q v r_11 n (x2 + 1) r_43.2))))))))))))) := hok
        refine lv_iload_n hx hb dL_seen_67 rfl (lv_at hl 0 rfl) ?_
        refine lv_aload_n hx hb dL_seen_68 rfl (lv_at hl 2 rfl) ?_
        refine r_V (own := RL) (v := (some (.int (f_X9_doorCount q v)))) (st1 := [.int (f_X9_doorCount q v), .int x2]) (As := []) (rest := [.int x2]) (c_X9_doorCountS l G qh0 q_snapshot q_history q_program q_notice va q v) ⟨hx, hb, hml, hown, hts⟩ g_L_202 hdv_X9_doorCount hK hST hS hP [0, 1, 2, 3, 4, 5, 6, 7, 8, 9, 10, 11, 12, 13, 14, 15, 16, 17, 18, 19, 20] rfl (k0 := 0) rfl rfl rfl ⟨Nat.le_of_ble_eq_true rfl, Nat.le_of_ble_eq_true rfl⟩ ⟨(by show _ ≤ 524; omega), (by show _ ≤ 3398; omega)⟩ rfl hl.1 rfl (Nat.le_of_ble_eq_true rfl) dL_seen_69 rfl (fun b_12 => ?_)
        refine lv_icmp_ge (tgt := 182) hx hb dL_seen_72 (by decide) (fun c_13 => ?_) (fun c_13 => ?_)
        · have hI := hI.trans (if_pos c_13)
          have hok := Eq.mp (if_pos c_13) hok
          refine W.widen (k := (367)) (n := (2456)) (by omega) (by omega) ?_
          exact K67 _ hI.symm _ _ ls (lv_sub hl [0, 1, 2] rfl) hP hD hS
        · have hI := hI.trans (if_neg c_13)
          have hok := Eq.mp (if_neg c_13) hok
          refine lv_bipush (v := (10 : Int32)) hx hb dL_seen_75 (by decide) ?_
          refine lv_bipush (v := (20 : Int32)) hx hb dL_seen_77 (by decide) ?_
          refine lv_iload_n hx hb dL_seen_79 rfl (lv_at hl 0 rfl) ?_
          refine lv_imul hx hb dL_seen_80 ?_
          refine lv_iadd hx hb dL_seen_81 ?_
          refine lv_istore_n (lv' := [(3, .int ((10 : Int32) + ((20 : Int32) * x2))), (2, .int x2), (1, .ref q_1), (0, .ref qh0)]) hx hb dL_seen_82 rfl hl (by decide) rfl (fun ls hl => ?_)
          refine lv_aload_n hx hb dL_seen_83 rfl (lv_at hl 2 rfl) ?_
          refine lv_iload_n hx hb dL_seen_84 rfl (lv_at hl 0 rfl) ?_
          refine lv_aload_n hx hb dL_seen_85 rfl (lv_at hl 3 rfl) ?_
          refine lv_iload_n hx hb dL_seen_86 rfl (lv_at hl 1 rfl) ?_
          have h_15 := hok.1
          have hok := hok.2
          refine xr_V (own := RL) (v := (some (.int ((f_X9_phasesOf q v x2).2)))) (st1 := [.int ((f_X9_phasesOf q v x2).2), .int ((10 : Int32) + ((20 : Int32) * x2)), .ref q_1]) (As := [.int x2]) (rest := [.int ((10 : Int32) + ((20 : Int32) * x2)), .ref q_1]) (c_X9_phasesOfS l hlf G qh0 q_snapshot q_history q_program q_notice va q v x2) ⟨hx, hb, hml, hown, hts⟩ g_L_211 hdv_X9_phasesOf hK hST hS hP [0, 1, 2, 3, 4, 5, 6, 7, 8, 9, 10, 11, 12, 13, 14, 15, 16, 17, 18, 19, 20] rfl (k0 := 0) rfl rfl rfl ⟨Nat.le_of_ble_eq_true rfl, Nat.le_of_ble_eq_true rfl⟩ ⟨(by show _ ≤ 524; omega), (by show _ ≤ 3398; omega)⟩ rfl hl.1 rfl (Nat.le_of_ble_eq_true rfl) dL_seen_87 rfl (fun E ce q9 H hE h1 h2 h3 h4 h5 => absurd (hE.1.trans h_15) hE.2) (fun b_14 => ?_)
          have hP := hP
          have b_14 := b_14.2
          have h_16 := hok.1
          have hok := hok.2
          refine va_iast hx hb hK hP hD hS 21 0 rfl rfl h_16 dL_seen_90 (fun H locs hP hD hS => ?_)
          have hP : va_P G.1 vwCl (fl [[(qh0, .inr (11, [.ref (va 0), .ref q_snapshot, .int q.1, .ref q_history, .ref q_program, .ref q_notice, .int q.2.1, .int q.2.2]))], wSt G va v, [cArr G q_1 260 (upd allL ((10 : Int32) + ((20 : Int32) * x2)).toNatClampNeg ((f_X9_phasesOf q v x2).2))]]) H := hP
          have hD : va_D A (fl [[(qh0, .inr (11, [.ref (va 0), .ref q_snapshot, .int q.1, .ref q_history, .ref q_program, .ref q_notice, .int q.2.1, .int q.2.2]))], wSt G va v, [cArr G q_1 260 (upd allL ((10 : Int32) + ((20 : Int32) * x2)).toNatClampNeg ((f_X9_phasesOf q v x2).2))]]) := hD
          refine lv_aload_n hx hb dL_seen_91 rfl (lv_at hl 2 rfl) ?_
          refine lv_iload_n hx hb dL_seen_92 rfl (lv_at hl 0 rfl) ?_
          refine lv_iconst (v := (1 : Int32)) hx hb dL_seen_93 (by decide) ?_
          refine lv_iadd hx hb dL_seen_94 ?_
          refine lv_aload_n hx hb dL_seen_95 rfl (lv_at hl 3 rfl) ?_
          refine lv_iload_n hx hb dL_seen_96 rfl (lv_at hl 1 rfl) ?_
          have h_18 := hok.1
          have hok := hok.2
          refine xr_V (own := RL) (v := (some (.int ((f_X9_keyOf q v x2).2)))) (st1 := [.int ((f_X9_keyOf q v x2).2), .int (((10 : Int32) + ((20 : Int32) * x2)) + (1 : Int32)), .ref q_1]) (As := [.int x2]) (rest := [.int (((10 : Int32) + ((20 : Int32) * x2)) + (1 : Int32)), .ref q_1]) (c_X9_keyOfS l hlf G qh0 q_snapshot q_history q_program q_notice va q v x2) ⟨hx, hb, hml, hown, hts⟩ g_L_214 hdv_X9_keyOf hK hST hS hP [0, 1, 2, 3, 4, 5, 6, 7, 8, 9, 10, 11, 12, 13, 14, 15, 16, 17, 18, 19, 20] rfl (k0 := 0) rfl rfl rfl ⟨Nat.le_of_ble_eq_true rfl, Nat.le_of_ble_eq_true rfl⟩ ⟨(by show _ ≤ 524; omega), (by show _ ≤ 3398; omega)⟩ rfl hl.1 rfl (Nat.le_of_ble_eq_true rfl) dL_seen_97 rfl (fun E ce q9 H hE h1 h2 h3 h4 h5 => absurd (hE.1.trans h_18) hE.2) (fun b_17 => ?_)
          have hP := hP
          have b_17 := b_17.2
          have h_19 := hok.1
          have hok := hok.2
          refine va_iast hx hb hK hP hD hS 21 0 rfl rfl h_19 dL_seen_100 (fun H locs hP hD hS => ?_)
          have hP : va_P G.1 vwCl (fl [[(qh0, .inr (11, [.ref (va 0), .ref q_snapshot, .int q.1, .ref q_history, .ref q_program, .ref q_notice, .int q.2.1, .int q.2.2]))], wSt G va v, [cArr G q_1 260 (upd (upd allL ((10 : Int32) + ((20 : Int32) * x2)).toNatClampNeg ((f_X9_phasesOf q v x2).2)) (((10 : Int32) + ((20 : Int32) * x2)) + (1 : Int32)).toNatClampNeg ((f_X9_keyOf q v x2).2))]]) H := hP
          have hD : va_D A (fl [[(qh0, .inr (11, [.ref (va 0), .ref q_snapshot, .int q.1, .ref q_history, .ref q_program, .ref q_notice, .int q.2.1, .int q.2.2]))], wSt G va v, [cArr G q_1 260 (upd (upd allL ((10 : Int32) + ((20 : Int32) * x2)).toNatClampNeg ((f_X9_phasesOf q v x2).2)) (((10 : Int32) + ((20 : Int32) * x2)) + (1 : Int32)).toNatClampNeg ((f_X9_keyOf q v x2).2))]]) := hD
          refine lv_aload_n hx hb dL_seen_101 rfl (lv_at hl 2 rfl) ?_
          refine lv_iload_n hx hb dL_seen_102 rfl (lv_at hl 0 rfl) ?_
          refine lv_iconst (v := (2 : Int32)) hx hb dL_seen_103 (by decide) ?_
          refine lv_iadd hx hb dL_seen_104 ?_
          refine lv_aload_n hx hb dL_seen_105 rfl (lv_at hl 3 rfl) ?_
          refine lv_iload_n hx hb dL_seen_106 rfl (lv_at hl 1 rfl) ?_
          have h_21 := hok.1
          have hok := hok.2
          refine xr_V (own := RL) (v := (some (.int ((f_X9_hourCount q v x2).2)))) (st1 := [.int ((f_X9_hourCount q v x2).2), .int (((10 : Int32) + ((20 : Int32) * x2)) + (2 : Int32)), .ref q_1]) (As := [.int x2]) (rest := [.int (((10 : Int32) + ((20 : Int32) * x2)) + (2 : Int32)), .ref q_1]) (c_X9_hourCountS l hlf G qh0 q_snapshot q_history q_program q_notice va q v x2) ⟨hx, hb, hml, hown, hts⟩ g_L_217 hdv_X9_hourCount hK hST hS hP [0, 1, 2, 3, 4, 5, 6, 7, 8, 9, 10, 11, 12, 13, 14, 15, 16, 17, 18, 19, 20] rfl (k0 := 0) rfl rfl rfl ⟨Nat.le_of_ble_eq_true rfl, Nat.le_of_ble_eq_true rfl⟩ ⟨(by show _ ≤ 524; omega), (by show _ ≤ 3398; omega)⟩ rfl hl.1 rfl (Nat.le_of_ble_eq_true rfl) dL_seen_107 rfl (fun E ce q9 H hE h1 h2 h3 h4 h5 => absurd (hE.1.trans h_21) hE.2) (fun b_20 => ?_)
          have hP := hP
          have b_20 := b_20.2
          have h_22 := hok.1
          have hok := hok.2
          refine va_iast hx hb hK hP hD hS 21 0 rfl rfl h_22 dL_seen_110 (fun H locs hP hD hS => ?_)
          have hP : va_P G.1 vwCl (fl [[(qh0, .inr (11, [.ref (va 0), .ref q_snapshot, .int q.1, .ref q_history, .ref q_program, .ref q_notice, .int q.2.1, .int q.2.2]))], wSt G va v, [cArr G q_1 260 (upd (upd (upd allL ((10 : Int32) + ((20 : Int32) * x2)).toNatClampNeg ((f_X9_phasesOf q v x2).2)) (((10 : Int32) + ((20 : Int32) * x2)) + (1 : Int32)).toNatClampNeg ((f_X9_keyOf q v x2).2)) (((10 : Int32) + ((20 : Int32) * x2)) + (2 : Int32)).toNatClampNeg ((f_X9_hourCount q v x2).2))]]) H := hP
          have hD : va_D A (fl [[(qh0, .inr (11, [.ref (va 0), .ref q_snapshot, .int q.1, .ref q_history, .ref q_program, .ref q_notice, .int q.2.1, .int q.2.2]))], wSt G va v, [cArr G q_1 260 (upd (upd (upd allL ((10 : Int32) + ((20 : Int32) * x2)).toNatClampNeg ((f_X9_phasesOf q v x2).2)) (((10 : Int32) + ((20 : Int32) * x2)) + (1 : Int32)).toNatClampNeg ((f_X9_keyOf q v x2).2)) (((10 : Int32) + ((20 : Int32) * x2)) + (2 : Int32)).toNatClampNeg ((f_X9_hourCount q v x2).2))]]) := hD
          refine lv_aload_n hx hb dL_seen_111 rfl (lv_at hl 2 rfl) ?_
          refine lv_iload_n hx hb dL_seen_112 rfl (lv_at hl 0 rfl) ?_
          refine lv_iconst (v := (3 : Int32)) hx hb dL_seen_113 (by decide) ?_
          refine lv_iadd hx hb dL_seen_114 ?_
          refine lv_aload_n hx hb dL_seen_115 rfl (lv_at hl 3 rfl) ?_
          refine lv_iload_n hx hb dL_seen_116 rfl (lv_at hl 1 rfl) ?_
          have h_24 := hok.1
          have hok := hok.2
          refine xr_V (own := RL) (v := (some (.int ((f_X9_isUnlocked q v x2).2)))) (st1 := [.int ((f_X9_isUnlocked q v x2).2), .int (((10 : Int32) + ((20 : Int32) * x2)) + (3 : Int32)), .ref q_1]) (As := [.int x2]) (rest := [.int (((10 : Int32) + ((20 : Int32) * x2)) + (3 : Int32)), .ref q_1]) (c_X9_isUnlockedS l hlf G qh0 q_snapshot q_history q_program q_notice va q v x2) ⟨hx, hb, hml, hown, hts⟩ g_L_220 hdv_X9_isUnlocked hK hST hS hP [0, 1, 2, 3, 4, 5, 6, 7, 8, 9, 10, 11, 12, 13, 14, 15, 16, 17, 18, 19, 20] rfl (k0 := 0) rfl rfl rfl ⟨Nat.le_of_ble_eq_true rfl, Nat.le_of_ble_eq_true rfl⟩ ⟨(by show _ ≤ 524; omega), (by show _ ≤ 3398; omega)⟩ rfl hl.1 rfl (Nat.le_of_ble_eq_true rfl) dL_seen_117 rfl (fun E ce q9 H hE h1 h2 h3 h4 h5 => absurd (hE.1.trans h_24) hE.2) (fun b_23 => ?_)
          have hP := hP
          have b_23 := b_23.2
          refine lv_if_eq (tgt := 127) hx hb dL_seen_120 (by decide) (fun c_25 => ?_) (fun c_25 => ?_)
          · have hI := hI.trans (if_pos c_25)
            have hok := Eq.mp (if_pos c_25) hok
            refine lv_iconst (v := (0 : Int32)) hx hb dL_seen_127 (by decide) ?_
            have h_26 := hok.1
            have hok := hok.2
            refine va_iast hx hb hK hP hD hS 21 0 rfl rfl h_26 dL_seen_128 (fun H locs hP hD hS => ?_)
            have hP : va_P G.1 vwCl (fl [[(qh0, .inr (11, [.ref (va 0), .ref q_snapshot, .int q.1, .ref q_history, .ref q_program, .ref q_notice, .int q.2.1, .int q.2.2]))], wSt G va v, [cArr G q_1 260 (upd (upd (upd (upd allL ((10 : Int32) + ((20 : Int32) * x2)).toNatClampNeg ((f_X9_phasesOf q v x2).2)) (((10 : Int32) + ((20 : Int32) * x2)) + (1 : Int32)).toNatClampNeg ((f_X9_keyOf q v x2).2)) (((10 : Int32) + ((20 : Int32) * x2)) + (2 : Int32)).toNatClampNeg ((f_X9_hourCount q v x2).2)) (((10 : Int32) + ((20 : Int32) * x2)) + (3 : Int32)).toNatClampNeg (0 : Int32))]]) H := hP
            have hD : va_D A (fl [[(qh0, .inr (11, [.ref (va 0), .ref q_snapshot, .int q.1, .ref q_history, .ref q_program, .ref q_notice, .int q.2.1, .int q.2.2]))], wSt G va v, [cArr G q_1 260 (upd (upd (upd (upd allL ((10 : Int32) + ((20 : Int32) * x2)).toNatClampNeg ((f_X9_phasesOf q v x2).2)) (((10 : Int32) + ((20 : Int32) * x2)) + (1 : Int32)).toNatClampNeg ((f_X9_keyOf q v x2).2)) (((10 : Int32) + ((20 : Int32) * x2)) + (2 : Int32)).toNatClampNeg ((f_X9_hourCount q v x2).2)) (((10 : Int32) + ((20 : Int32) * x2)) + (3 : Int32)).toNatClampNeg (0 : Int32))]]) := hD
            refine lv_iconst (v := (0 : Int32)) hx hb dL_seen_129 (by decide) ?_
            refine lv_istore (lv' := [(4, .int (0 : Int32)), (3, .int ((10 : Int32) + ((20 : Int32) * x2))), (2, .int x2), (1, .ref q_1), (0, .ref qh0)]) hx hb dL_seen_130 hl (by decide) rfl (fun ls hl => ?_)
            have hkI := hok.1
            have hok := hok.2
            have K132 : ∀ (r_34 : Int32 × (Nat → Int32)), r_34 = (lp_L_seen_132 q v r_11 x2 allL 9 (0 : Int32) (upd (upd (upd (upd allL ((10 : Int32) + ((20 : Int32) * x2)).toNatClampNeg ((f_X9_phasesOf q v x2).2)) (((10 : Int32) + ((20 : Int32) * x2)) + (1 : Int32)).toNatClampNeg ((f_X9_keyOf q v x2).2)) (((10 : Int32) + ((20 : Int32) * x2)) + (2 : Int32)).toNatClampNeg ((f_X9_hourCount q v x2).2)) (((10 : Int32) + ((20 : Int32) * x2)) + (3 : Int32)).toNatClampNeg (0 : Int32))) → ∀ (H : Heap) (locs : List Loc), ∀ (ls : Array Slot), lv_has ls 5 [(4, .int r_34.1), (3, .int ((10 : Int32) + ((20 : Int32) * x2))), (2, .int x2), (1, .ref q_1), (0, .ref qh0)] → va_P G.1 vwCl (fl [[(qh0, .inr (11, [.ref (va 0), .ref q_snapshot, .int q.1, .ref q_history, .ref q_program, .ref q_notice, .int q.2.1, .int q.2.2]))], wSt G va v, [cArr G q_1 260 r_34.2]]) H → va_D A (fl [[(qh0, .inr (11, [.ref (va 0), .ref q_snapshot, .int q.1, .ref q_history, .ref q_program, .ref q_notice, .int q.2.1, .int q.2.2]))], wSt G va v, [cArr G q_1 260 r_34.2]]) → va_S A s.heap H locs → W p l e (rmd 11 524 3398) s m ([.ref qh0] : List Value).toArray below meth c H locs (kc_67 + 40) (ks_67 + 240) (MQ below (wQ (fun u : Nat × Nat × (Nat → Int32) => some (.ref u.1)) (fun u : Nat × Nat × (Nat → Int32) => u.2 = f_L_seen q v) (fun u : Nat × Nat × (Nat → Int32) => fl [[(qh0, .inr (11, [.ref (va 0), .ref q_snapshot, .int q.1, .ref q_history, .ref q_program, .ref q_notice, .int q.2.1, .int q.2.2]))], wSt G va v, [(u.1, .inl (G.2.1 0, u.2.1, .inl u.2.2))]]) G.1 A) ([.ref qh0] : List Value).toArray s 524 3398 A) (F0 m 176 ls []) := by
              intro r_34 er_34 H locs ls hl hP hD hS
              have hI : (lp_L_seen_67 q v r_11 9 (0 : Int32) r_11.2) = (lp_L_seen_67 q v r_11 n (x2 + 1) r_34.2) := by subst er_34; exact hI
              have hok : (okl_lp_L_seen_67 q v r_11 n (x2 + 1) r_34.2) := hok _ er_34
              refine lv_iinc (v := (x2 + 1)) (lv' := [(2, .int (x2 + 1)), (4, .int r_34.1), (3, .int ((10 : Int32) + ((20 : Int32) * x2))), (1, .ref q_1), (0, .ref qh0)]) hx hb dL_seen_176 hl (k := 2) rfl rfl (by decide) rfl (fun ls hl => ?_)
              refine lv_goto (tgt := 67) hx hb dL_seen_179 (by decide) ?_
              exact ih (x2 + 1) r_34.2 _ _ _ _ ls (lv_sub hl [0, 3, 4] rfl) hP hD hS (by omega) (by omega) hI hok
            have L132 : ∀ (n : Nat) (x4 : Int32) (allL' : Nat → Int32) (H : Heap) (locs : List Loc) (kc_132 ks_132 : Nat) (ls : Array Slot), lv_has ls 5 [(4, .int x4), (3, .int ((10 : Int32) + ((20 : Int32) * x2))), (2, .int x2), (1, .ref q_1), (0, .ref qh0)] → va_P G.1 vwCl (fl [[(qh0, .inr (11, [.ref (va 0), .ref q_snapshot, .int q.1, .ref q_history, .ref q_program, .ref q_notice, .int q.2.1, .int q.2.2]))], wSt G va v, [cArr G q_1 260 allL']]) H → va_D A (fl [[(qh0, .inr (11, [.ref (va 0), .ref q_snapshot, .int q.1, .ref q_history, .ref q_program, .ref q_notice, .int q.2.1, .int q.2.2]))], wSt G va v, [cArr G q_1 260 allL']]) → va_S A s.heap H locs → kc_132 + n * 4 ≤ (kc_67 + 4) + 36 → ks_132 + n * 24 ≤ (ks_67 + 24) + 216 → (lp_L_seen_132 q v r_11 x2 allL 9 (0 : Int32) (upd (upd (upd (upd allL ((10 : Int32) + ((20 : Int32) * x2)).toNatClampNeg ((f_X9_phasesOf q v x2).2)) (((10 : Int32) + ((20 : Int32) * x2)) + (1 : Int32)).toNatClampNeg ((f_X9_keyOf q v x2).2)) (((10 : Int32) + ((20 : Int32) * x2)) + (2 : Int32)).toNatClampNeg ((f_X9_hourCount q v x2).2)) (((10 : Int32) + ((20 : Int32) * x2)) + (3 : Int32)).toNatClampNeg (0 : Int32))) = lp_L_seen_132 q v r_11 x2 allL n x4 allL' → okl_lp_L_seen_132 q v r_11 x2 allL n x4 allL' → W p l e (rmd 11 524 3398) s m ([.ref qh0] : List Value).toArray below meth c H locs kc_132 ks_132 (MQ below (wQ (fun u : Nat × Nat × (Nat → Int32) => some (.ref u.1)) (fun u : Nat × Nat × (Nat → Int32) => u.2 = f_L_seen q v) (fun u : Nat × Nat × (Nat → Int32) => fl [[(qh0, .inr (11, [.ref (va 0), .ref q_snapshot, .int q.1, .ref q_history, .ref q_program, .ref q_notice, .int q.2.1, .int q.2.2]))], wSt G va v, [(u.1, .inl (G.2.1 0, u.2.1, .inl u.2.2))]]) G.1 A) ([.ref qh0] : List Value).toArray s 524 3398 A) (F0 m 132 ls []) := by
              intro n
              induction n with
              | zero => intro x4 allL' H locs kc_132 ks_132 ls hl _ _ _ _ _ hI hok; exact hok.elim
              | succ n ih =>
                intro x4 allL' H locs kc_132 ks_132 ls hl hP hD hS hkc_132 hks_132 hI hok
                have hI : (lp_L_seen_132 q v r_11 x2 allL 9 (0 : Int32) (upd (upd (upd (upd allL ((10 : Int32) + ((20 : Int32) * x2)).toNatClampNeg ((f_X9_phasesOf q v x2).2)) (((10 : Int32) + ((20 : Int32) * x2)) + (1 : Int32)).toNatClampNeg ((f_X9_keyOf q v x2).2)) (((10 : Int32) + ((20 : Int32) * x2)) + (2 : Int32)).toNatClampNeg ((f_X9_hourCount q v x2).2)) (((10 : Int32) + ((20 : Int32) * x2)) + (3 : Int32)).toNatClampNeg (0 : Int32))) = (if (8 : Int32) ≤ x4 then (x4, allL') else (lp_L_seen_132 q v r_11 x2 allL n (x4 + 1) (upd (upd allL' ((((10 : Int32) + ((20 : Int32) * x2)) + (4 : Int32)) + x4).toNatClampNeg ((f_X9_entriesOn q v x2 x4).2)) ((((10 : Int32) + ((20 : Int32) * x2)) + (12 : Int32)) + x4).toNatClampNeg ((f_X9_refusalsOn q v x2 x4).2)))) := hI
                have hok : (if (8 : Int32) ≤ x4 then True else ((f_X9_entriesOn q v x2 x4).1 = "" ∧ (vp_in ((((10 : Int32) + ((20 : Int32) * x2)) + (4 : Int32)) + x4) 260 ∧ ((f_X9_refusalsOn q v x2 x4).1 = "" ∧ (vp_in ((((10 : Int32) + ((20 : Int32) * x2)) + (12 : Int32)) + x4) 260 ∧ (okl_lp_L_seen_132 q v r_11 x2 allL n (x4 + 1) (upd (upd allL' ((((10 : Int32) + ((20 : Int32) * x2)) + (4 : Int32)) + x4).toNatClampNeg ((f_X9_entriesOn q v x2 x4).2)) ((((10 : Int32) + ((20 : Int32) * x2)) + (12 : Int32)) + x4).toNatClampNeg ((f_X9_refusalsOn q v x2 x4).2)))))))) := hok
                refine lv_iload hx hb dL_seen_132 (lv_at hl 0 rfl) ?_
                refine lv_bipush (v := (8 : Int32)) hx hb dL_seen_134 (by decide) ?_
                refine lv_icmp_ge (tgt := 176) hx hb dL_seen_136 (by decide) (fun c_27 => ?_) (fun c_27 => ?_)
                · have hI := hI.trans (if_pos c_27)
                  have hok := Eq.mp (if_pos c_27) hok
                  refine W.widen (k := (kc_67 + 40)) (n := (ks_67 + 240)) (by omega) (by omega) ?_
                  exact K132 _ hI.symm _ _ ls (lv_sub hl [0, 1, 2, 3, 4] rfl) hP hD hS
                · have hI := hI.trans (if_neg c_27)
                  have hok := Eq.mp (if_neg c_27) hok
                  refine lv_aload_n hx hb dL_seen_139 rfl (lv_at hl 3 rfl) ?_
                  refine lv_iload_n hx hb dL_seen_140 rfl (lv_at hl 1 rfl) ?_
                  refine lv_iconst (v := (4 : Int32)) hx hb dL_seen_141 (by decide) ?_
                  refine lv_iadd hx hb dL_seen_142 ?_
                  refine lv_iload hx hb dL_seen_143 (lv_at hl 0 rfl) ?_
                  refine lv_iadd hx hb dL_seen_145 ?_
                  refine lv_aload_n hx hb dL_seen_146 rfl (lv_at hl 4 rfl) ?_
                  refine lv_iload_n hx hb dL_seen_147 rfl (lv_at hl 2 rfl) ?_
                  refine lv_iload hx hb dL_seen_148 (lv_at hl 0 rfl) ?_
                  have h_29 := hok.1
                  have hok := hok.2
                  refine xr_V (own := RL) (v := (some (.int ((f_X9_entriesOn q v x2 x4).2)))) (st1 := [.int ((f_X9_entriesOn q v x2 x4).2), .int ((((10 : Int32) + ((20 : Int32) * x2)) + (4 : Int32)) + x4), .ref q_1]) (As := [.int x2, .int x4]) (rest := [.int ((((10 : Int32) + ((20 : Int32) * x2)) + (4 : Int32)) + x4), .ref q_1]) (c_X9_entriesOnS l hlf G qh0 q_snapshot q_history q_program q_notice va q v x2 x4) ⟨hx, hb, hml, hown, hts⟩ g_L_224 hdv_X9_entriesOn hK hST hS hP [0, 1, 2, 3, 4, 5, 6, 7, 8, 9, 10, 11, 12, 13, 14, 15, 16, 17, 18, 19, 20] rfl (k0 := 0) rfl rfl rfl ⟨Nat.le_of_ble_eq_true rfl, Nat.le_of_ble_eq_true rfl⟩ ⟨(by show _ ≤ 524; omega), (by show _ ≤ 3398; omega)⟩ rfl hl.1 rfl (Nat.le_of_ble_eq_true rfl) dL_seen_150 rfl (fun E ce q9 H hE h1 h2 h3 h4 h5 => absurd (hE.1.trans h_29) hE.2) (fun b_28 => ?_)
                  have hP := hP
                  have b_28 := b_28.2
                  have h_30 := hok.1
                  have hok := hok.2
                  refine va_iast hx hb hK hP hD hS 21 0 rfl rfl h_30 dL_seen_153 (fun H locs hP hD hS => ?_)
                  have hP : va_P G.1 vwCl (fl [[(qh0, .inr (11, [.ref (va 0), .ref q_snapshot, .int q.1, .ref q_history, .ref q_program, .ref q_notice, .int q.2.1, .int q.2.2]))], wSt G va v, [cArr G q_1 260 (upd allL' ((((10 : Int32) + ((20 : Int32) * x2)) + (4 : Int32)) + x4).toNatClampNeg ((f_X9_entriesOn q v x2 x4).2))]]) H := hP
                  have hD : va_D A (fl [[(qh0, .inr (11, [.ref (va 0), .ref q_snapshot, .int q.1, .ref q_history, .ref q_program, .ref q_notice, .int q.2.1, .int q.2.2]))], wSt G va v, [cArr G q_1 260 (upd allL' ((((10 : Int32) + ((20 : Int32) * x2)) + (4 : Int32)) + x4).toNatClampNeg ((f_X9_entriesOn q v x2 x4).2))]]) := hD
                  refine lv_aload_n hx hb dL_seen_154 rfl (lv_at hl 3 rfl) ?_
                  refine lv_iload_n hx hb dL_seen_155 rfl (lv_at hl 1 rfl) ?_
                  refine lv_bipush (v := (12 : Int32)) hx hb dL_seen_156 (by decide) ?_
                  refine lv_iadd hx hb dL_seen_158 ?_
                  refine lv_iload hx hb dL_seen_159 (lv_at hl 0 rfl) ?_
                  refine lv_iadd hx hb dL_seen_161 ?_
                  refine lv_aload_n hx hb dL_seen_162 rfl (lv_at hl 4 rfl) ?_
                  refine lv_iload_n hx hb dL_seen_163 rfl (lv_at hl 2 rfl) ?_
                  refine lv_iload hx hb dL_seen_164 (lv_at hl 0 rfl) ?_
                  have h_32 := hok.1
                  have hok := hok.2
                  refine xr_V (own := RL) (v := (some (.int ((f_X9_refusalsOn q v x2 x4).2)))) (st1 := [.int ((f_X9_refusalsOn q v x2 x4).2), .int ((((10 : Int32) + ((20 : Int32) * x2)) + (12 : Int32)) + x4), .ref q_1]) (As := [.int x2, .int x4]) (rest := [.int ((((10 : Int32) + ((20 : Int32) * x2)) + (12 : Int32)) + x4), .ref q_1]) (c_X9_refusalsOnS l hlf G qh0 q_snapshot q_history q_program q_notice va q v x2 x4) ⟨hx, hb, hml, hown, hts⟩ g_L_227 hdv_X9_refusalsOn hK hST hS hP [0, 1, 2, 3, 4, 5, 6, 7, 8, 9, 10, 11, 12, 13, 14, 15, 16, 17, 18, 19, 20] rfl (k0 := 0) rfl rfl rfl ⟨Nat.le_of_ble_eq_true rfl, Nat.le_of_ble_eq_true rfl⟩ ⟨(by show _ ≤ 524; omega), (by show _ ≤ 3398; omega)⟩ rfl hl.1 rfl (Nat.le_of_ble_eq_true rfl) dL_seen_166 rfl (fun E ce q9 H hE h1 h2 h3 h4 h5 => absurd (hE.1.trans h_32) hE.2) (fun b_31 => ?_)
                  have hP := hP
                  have b_31 := b_31.2
                  have h_33 := hok.1
                  have hok := hok.2
                  refine va_iast hx hb hK hP hD hS 21 0 rfl rfl h_33 dL_seen_169 (fun H locs hP hD hS => ?_)
                  have hP : va_P G.1 vwCl (fl [[(qh0, .inr (11, [.ref (va 0), .ref q_snapshot, .int q.1, .ref q_history, .ref q_program, .ref q_notice, .int q.2.1, .int q.2.2]))], wSt G va v, [cArr G q_1 260 (upd (upd allL' ((((10 : Int32) + ((20 : Int32) * x2)) + (4 : Int32)) + x4).toNatClampNeg ((f_X9_entriesOn q v x2 x4).2)) ((((10 : Int32) + ((20 : Int32) * x2)) + (12 : Int32)) + x4).toNatClampNeg ((f_X9_refusalsOn q v x2 x4).2))]]) H := hP
                  have hD : va_D A (fl [[(qh0, .inr (11, [.ref (va 0), .ref q_snapshot, .int q.1, .ref q_history, .ref q_program, .ref q_notice, .int q.2.1, .int q.2.2]))], wSt G va v, [cArr G q_1 260 (upd (upd allL' ((((10 : Int32) + ((20 : Int32) * x2)) + (4 : Int32)) + x4).toNatClampNeg ((f_X9_entriesOn q v x2 x4).2)) ((((10 : Int32) + ((20 : Int32) * x2)) + (12 : Int32)) + x4).toNatClampNeg ((f_X9_refusalsOn q v x2 x4).2))]]) := hD
                  refine lv_iinc (v := (x4 + 1)) (lv' := [(4, .int (x4 + 1)), (3, .int ((10 : Int32) + ((20 : Int32) * x2))), (2, .int x2), (1, .ref q_1), (0, .ref qh0)]) hx hb dL_seen_170 hl (k := 0) rfl rfl (by decide) rfl (fun ls hl => ?_)
                  refine lv_goto (tgt := 132) hx hb dL_seen_173 (by decide) ?_
                  exact ih (x4 + 1) (upd (upd allL' ((((10 : Int32) + ((20 : Int32) * x2)) + (4 : Int32)) + x4).toNatClampNeg ((f_X9_entriesOn q v x2 x4).2)) ((((10 : Int32) + ((20 : Int32) * x2)) + (12 : Int32)) + x4).toNatClampNeg ((f_X9_refusalsOn q v x2 x4).2)) _ _ _ _ ls (lv_sub hl [0, 1, 2, 3, 4] rfl) hP hD hS (by omega) (by omega) hI hok
            refine W.widen (k := (kc_67 + 4)) (n := (ks_67 + 24)) (by omega) (by omega) ?_
            exact L132 9 (0 : Int32) (upd (upd (upd (upd allL ((10 : Int32) + ((20 : Int32) * x2)).toNatClampNeg ((f_X9_phasesOf q v x2).2)) (((10 : Int32) + ((20 : Int32) * x2)) + (1 : Int32)).toNatClampNeg ((f_X9_keyOf q v x2).2)) (((10 : Int32) + ((20 : Int32) * x2)) + (2 : Int32)).toNatClampNeg ((f_X9_hourCount q v x2).2)) (((10 : Int32) + ((20 : Int32) * x2)) + (3 : Int32)).toNatClampNeg (0 : Int32)) _ _ (kc_67 + 4) (ks_67 + 24) ls (lv_sub hl [0, 1, 2, 3, 4] rfl) hP hD hS (Nat.le_refl _) (Nat.le_refl _) rfl hkI
          · have hI := hI.trans (if_neg c_25)
            have hok := Eq.mp (if_neg c_25) hok
            refine lv_iconst (v := (1 : Int32)) hx hb dL_seen_123 (by decide) ?_
            refine lv_goto (tgt := 128) hx hb dL_seen_124 (by decide) ?_
            have h_35 := hok.1
            have hok := hok.2
            refine va_iast hx hb hK hP hD hS 21 0 rfl rfl h_35 dL_seen_128 (fun H locs hP hD hS => ?_)
            have hP : va_P G.1 vwCl (fl [[(qh0, .inr (11, [.ref (va 0), .ref q_snapshot, .int q.1, .ref q_history, .ref q_program, .ref q_notice, .int q.2.1, .int q.2.2]))], wSt G va v, [cArr G q_1 260 (upd (upd (upd (upd allL ((10 : Int32) + ((20 : Int32) * x2)).toNatClampNeg ((f_X9_phasesOf q v x2).2)) (((10 : Int32) + ((20 : Int32) * x2)) + (1 : Int32)).toNatClampNeg ((f_X9_keyOf q v x2).2)) (((10 : Int32) + ((20 : Int32) * x2)) + (2 : Int32)).toNatClampNeg ((f_X9_hourCount q v x2).2)) (((10 : Int32) + ((20 : Int32) * x2)) + (3 : Int32)).toNatClampNeg (1 : Int32))]]) H := hP
            have hD : va_D A (fl [[(qh0, .inr (11, [.ref (va 0), .ref q_snapshot, .int q.1, .ref q_history, .ref q_program, .ref q_notice, .int q.2.1, .int q.2.2]))], wSt G va v, [cArr G q_1 260 (upd (upd (upd (upd allL ((10 : Int32) + ((20 : Int32) * x2)).toNatClampNeg ((f_X9_phasesOf q v x2).2)) (((10 : Int32) + ((20 : Int32) * x2)) + (1 : Int32)).toNatClampNeg ((f_X9_keyOf q v x2).2)) (((10 : Int32) + ((20 : Int32) * x2)) + (2 : Int32)).toNatClampNeg ((f_X9_hourCount q v x2).2)) (((10 : Int32) + ((20 : Int32) * x2)) + (3 : Int32)).toNatClampNeg (1 : Int32))]]) := hD
            refine lv_iconst (v := (0 : Int32)) hx hb dL_seen_129 (by decide) ?_
            refine lv_istore (lv' := [(4, .int (0 : Int32)), (3, .int ((10 : Int32) + ((20 : Int32) * x2))), (2, .int x2), (1, .ref q_1), (0, .ref qh0)]) hx hb dL_seen_130 hl (by decide) rfl (fun ls hl => ?_)
            have hkI := hok.1
            have hok := hok.2
            have K132 : ∀ (r_43 : Int32 × (Nat → Int32)), r_43 = (lp_L_seen_132' q v r_11 x2 allL 9 (0 : Int32) (upd (upd (upd (upd allL ((10 : Int32) + ((20 : Int32) * x2)).toNatClampNeg ((f_X9_phasesOf q v x2).2)) (((10 : Int32) + ((20 : Int32) * x2)) + (1 : Int32)).toNatClampNeg ((f_X9_keyOf q v x2).2)) (((10 : Int32) + ((20 : Int32) * x2)) + (2 : Int32)).toNatClampNeg ((f_X9_hourCount q v x2).2)) (((10 : Int32) + ((20 : Int32) * x2)) + (3 : Int32)).toNatClampNeg (1 : Int32))) → ∀ (H : Heap) (locs : List Loc), ∀ (ls : Array Slot), lv_has ls 5 [(4, .int r_43.1), (3, .int ((10 : Int32) + ((20 : Int32) * x2))), (2, .int x2), (1, .ref q_1), (0, .ref qh0)] → va_P G.1 vwCl (fl [[(qh0, .inr (11, [.ref (va 0), .ref q_snapshot, .int q.1, .ref q_history, .ref q_program, .ref q_notice, .int q.2.1, .int q.2.2]))], wSt G va v, [cArr G q_1 260 r_43.2]]) H → va_D A (fl [[(qh0, .inr (11, [.ref (va 0), .ref q_snapshot, .int q.1, .ref q_history, .ref q_program, .ref q_notice, .int q.2.1, .int q.2.2]))], wSt G va v, [cArr G q_1 260 r_43.2]]) → va_S A s.heap H locs → W p l e (rmd 11 524 3398) s m ([.ref qh0] : List Value).toArray below meth c H locs (kc_67 + 40) (ks_67 + 240) (MQ below (wQ (fun u : Nat × Nat × (Nat → Int32) => some (.ref u.1)) (fun u : Nat × Nat × (Nat → Int32) => u.2 = f_L_seen q v) (fun u : Nat × Nat × (Nat → Int32) => fl [[(qh0, .inr (11, [.ref (va 0), .ref q_snapshot, .int q.1, .ref q_history, .ref q_program, .ref q_notice, .int q.2.1, .int q.2.2]))], wSt G va v, [(u.1, .inl (G.2.1 0, u.2.1, .inl u.2.2))]]) G.1 A) ([.ref qh0] : List Value).toArray s 524 3398 A) (F0 m 176 ls []) := by
              intro r_43 er_43 H locs ls hl hP hD hS
              have hI : (lp_L_seen_67 q v r_11 9 (0 : Int32) r_11.2) = (lp_L_seen_67 q v r_11 n (x2 + 1) r_43.2) := by subst er_43; exact hI
              have hok : (okl_lp_L_seen_67 q v r_11 n (x2 + 1) r_43.2) := hok _ er_43
              refine lv_iinc (v := (x2 + 1)) (lv' := [(2, .int (x2 + 1)), (4, .int r_43.1), (3, .int ((10 : Int32) + ((20 : Int32) * x2))), (1, .ref q_1), (0, .ref qh0)]) hx hb dL_seen_176 hl (k := 2) rfl rfl (by decide) rfl (fun ls hl => ?_)
              refine lv_goto (tgt := 67) hx hb dL_seen_179 (by decide) ?_
              exact ih (x2 + 1) r_43.2 _ _ _ _ ls (lv_sub hl [0, 3, 4] rfl) hP hD hS (by omega) (by omega) hI hok
            have L132 : ∀ (n : Nat) (x4 : Int32) (allL' : Nat → Int32) (H : Heap) (locs : List Loc) (kc_132 ks_132 : Nat) (ls : Array Slot), lv_has ls 5 [(4, .int x4), (3, .int ((10 : Int32) + ((20 : Int32) * x2))), (2, .int x2), (1, .ref q_1), (0, .ref qh0)] → va_P G.1 vwCl (fl [[(qh0, .inr (11, [.ref (va 0), .ref q_snapshot, .int q.1, .ref q_history, .ref q_program, .ref q_notice, .int q.2.1, .int q.2.2]))], wSt G va v, [cArr G q_1 260 allL']]) H → va_D A (fl [[(qh0, .inr (11, [.ref (va 0), .ref q_snapshot, .int q.1, .ref q_history, .ref q_program, .ref q_notice, .int q.2.1, .int q.2.2]))], wSt G va v, [cArr G q_1 260 allL']]) → va_S A s.heap H locs → kc_132 + n * 4 ≤ (kc_67 + 4) + 36 → ks_132 + n * 24 ≤ (ks_67 + 24) + 216 → (lp_L_seen_132' q v r_11 x2 allL 9 (0 : Int32) (upd (upd (upd (upd allL ((10 : Int32) + ((20 : Int32) * x2)).toNatClampNeg ((f_X9_phasesOf q v x2).2)) (((10 : Int32) + ((20 : Int32) * x2)) + (1 : Int32)).toNatClampNeg ((f_X9_keyOf q v x2).2)) (((10 : Int32) + ((20 : Int32) * x2)) + (2 : Int32)).toNatClampNeg ((f_X9_hourCount q v x2).2)) (((10 : Int32) + ((20 : Int32) * x2)) + (3 : Int32)).toNatClampNeg (1 : Int32))) = lp_L_seen_132' q v r_11 x2 allL n x4 allL' → okl_lp_L_seen_132' q v r_11 x2 allL n x4 allL' → W p l e (rmd 11 524 3398) s m ([.ref qh0] : List Value).toArray below meth c H locs kc_132 ks_132 (MQ below (wQ (fun u : Nat × Nat × (Nat → Int32) => some (.ref u.1)) (fun u : Nat × Nat × (Nat → Int32) => u.2 = f_L_seen q v) (fun u : Nat × Nat × (Nat → Int32) => fl [[(qh0, .inr (11, [.ref (va 0), .ref q_snapshot, .int q.1, .ref q_history, .ref q_program, .ref q_notice, .int q.2.1, .int q.2.2]))], wSt G va v, [(u.1, .inl (G.2.1 0, u.2.1, .inl u.2.2))]]) G.1 A) ([.ref qh0] : List Value).toArray s 524 3398 A) (F0 m 132 ls []) := by
              intro n
              induction n with
              | zero => intro x4 allL' H locs kc_132 ks_132 ls hl _ _ _ _ _ hI hok; exact hok.elim
              | succ n ih =>
                intro x4 allL' H locs kc_132 ks_132 ls hl hP hD hS hkc_132 hks_132 hI hok
                have hI : (lp_L_seen_132' q v r_11 x2 allL 9 (0 : Int32) (upd (upd (upd (upd allL ((10 : Int32) + ((20 : Int32) * x2)).toNatClampNeg ((f_X9_phasesOf q v x2).2)) (((10 : Int32) + ((20 : Int32) * x2)) + (1 : Int32)).toNatClampNeg ((f_X9_keyOf q v x2).2)) (((10 : Int32) + ((20 : Int32) * x2)) + (2 : Int32)).toNatClampNeg ((f_X9_hourCount q v x2).2)) (((10 : Int32) + ((20 : Int32) * x2)) + (3 : Int32)).toNatClampNeg (1 : Int32))) = (if (8 : Int32) ≤ x4 then (x4, allL') else (lp_L_seen_132' q v r_11 x2 allL n (x4 + 1) (upd (upd allL' ((((10 : Int32) + ((20 : Int32) * x2)) + (4 : Int32)) + x4).toNatClampNeg ((f_X9_entriesOn q v x2 x4).2)) ((((10 : Int32) + ((20 : Int32) * x2)) + (12 : Int32)) + x4).toNatClampNeg ((f_X9_refusalsOn q v x2 x4).2)))) := hI
                have hok : (if (8 : Int32) ≤ x4 then True else ((f_X9_entriesOn q v x2 x4).1 = "" ∧ (vp_in ((((10 : Int32) + ((20 : Int32) * x2)) + (4 : Int32)) + x4) 260 ∧ ((f_X9_refusalsOn q v x2 x4).1 = "" ∧ (vp_in ((((10 : Int32) + ((20 : Int32) * x2)) + (12 : Int32)) + x4) 260 ∧ (okl_lp_L_seen_132' q v r_11 x2 allL n (x4 + 1) (upd (upd allL' ((((10 : Int32) + ((20 : Int32) * x2)) + (4 : Int32)) + x4).toNatClampNeg ((f_X9_entriesOn q v x2 x4).2)) ((((10 : Int32) + ((20 : Int32) * x2)) + (12 : Int32)) + x4).toNatClampNeg ((f_X9_refusalsOn q v x2 x4).2)))))))) := hok
                refine lv_iload hx hb dL_seen_132 (lv_at hl 0 rfl) ?_
                refine lv_bipush (v := (8 : Int32)) hx hb dL_seen_134 (by decide) ?_
                refine lv_icmp_ge (tgt := 176) hx hb dL_seen_136 (by decide) (fun c_36 => ?_) (fun c_36 => ?_)
                · have hI := hI.trans (if_pos c_36)
                  have hok := Eq.mp (if_pos c_36) hok
                  refine W.widen (k := (kc_67 + 40)) (n := (ks_67 + 240)) (by omega) (by omega) ?_
                  exact K132 _ hI.symm _ _ ls (lv_sub hl [0, 1, 2, 3, 4] rfl) hP hD hS
                · have hI := hI.trans (if_neg c_36)
                  have hok := Eq.mp (if_neg c_36) hok
                  refine lv_aload_n hx hb dL_seen_139 rfl (lv_at hl 3 rfl) ?_
                  refine lv_iload_n hx hb dL_seen_140 rfl (lv_at hl 1 rfl) ?_
                  refine lv_iconst (v := (4 : Int32)) hx hb dL_seen_141 (by decide) ?_
                  refine lv_iadd hx hb dL_seen_142 ?_
                  refine lv_iload hx hb dL_seen_143 (lv_at hl 0 rfl) ?_
                  refine lv_iadd hx hb dL_seen_145 ?_
                  refine lv_aload_n hx hb dL_seen_146 rfl (lv_at hl 4 rfl) ?_
                  refine lv_iload_n hx hb dL_seen_147 rfl (lv_at hl 2 rfl) ?_
                  refine lv_iload hx hb dL_seen_148 (lv_at hl 0 rfl) ?_
                  have h_38 := hok.1
                  have hok := hok.2
                  refine xr_V (own := RL) (v := (some (.int ((f_X9_entriesOn q v x2 x4).2)))) (st1 := [.int ((f_X9_entriesOn q v x2 x4).2), .int ((((10 : Int32) + ((20 : Int32) * x2)) + (4 : Int32)) + x4), .ref q_1]) (As := [.int x2, .int x4]) (rest := [.int ((((10 : Int32) + ((20 : Int32) * x2)) + (4 : Int32)) + x4), .ref q_1]) (c_X9_entriesOnS l hlf G qh0 q_snapshot q_history q_program q_notice va q v x2 x4) ⟨hx, hb, hml, hown, hts⟩ g_L_224 hdv_X9_entriesOn hK hST hS hP [0, 1, 2, 3, 4, 5, 6, 7, 8, 9, 10, 11, 12, 13, 14, 15, 16, 17, 18, 19, 20] rfl (k0 := 0) rfl rfl rfl ⟨Nat.le_of_ble_eq_true rfl, Nat.le_of_ble_eq_true rfl⟩ ⟨(by show _ ≤ 524; omega), (by show _ ≤ 3398; omega)⟩ rfl hl.1 rfl (Nat.le_of_ble_eq_true rfl) dL_seen_150 rfl (fun E ce q9 H hE h1 h2 h3 h4 h5 => absurd (hE.1.trans h_38) hE.2) (fun b_37 => ?_)
                  have hP := hP
                  have b_37 := b_37.2
                  have h_39 := hok.1
                  have hok := hok.2
                  refine va_iast hx hb hK hP hD hS 21 0 rfl rfl h_39 dL_seen_153 (fun H locs hP hD hS => ?_)
                  have hP : va_P G.1 vwCl (fl [[(qh0, .inr (11, [.ref (va 0), .ref q_snapshot, .int q.1, .ref q_history, .ref q_program, .ref q_notice, .int q.2.1, .int q.2.2]))], wSt G va v, [cArr G q_1 260 (upd allL' ((((10 : Int32) + ((20 : Int32) * x2)) + (4 : Int32)) + x4).toNatClampNeg ((f_X9_entriesOn q v x2 x4).2))]]) H := hP
                  have hD : va_D A (fl [[(qh0, .inr (11, [.ref (va 0), .ref q_snapshot, .int q.1, .ref q_history, .ref q_program, .ref q_notice, .int q.2.1, .int q.2.2]))], wSt G va v, [cArr G q_1 260 (upd allL' ((((10 : Int32) + ((20 : Int32) * x2)) + (4 : Int32)) + x4).toNatClampNeg ((f_X9_entriesOn q v x2 x4).2))]]) := hD
                  refine lv_aload_n hx hb dL_seen_154 rfl (lv_at hl 3 rfl) ?_
                  refine lv_iload_n hx hb dL_seen_155 rfl (lv_at hl 1 rfl) ?_
                  refine lv_bipush (v := (12 : Int32)) hx hb dL_seen_156 (by decide) ?_
                  refine lv_iadd hx hb dL_seen_158 ?_
                  refine lv_iload hx hb dL_seen_159 (lv_at hl 0 rfl) ?_
                  refine lv_iadd hx hb dL_seen_161 ?_
                  refine lv_aload_n hx hb dL_seen_162 rfl (lv_at hl 4 rfl) ?_
                  refine lv_iload_n hx hb dL_seen_163 rfl (lv_at hl 2 rfl) ?_
                  refine lv_iload hx hb dL_seen_164 (lv_at hl 0 rfl) ?_
                  have h_41 := hok.1
                  have hok := hok.2
                  refine xr_V (own := RL) (v := (some (.int ((f_X9_refusalsOn q v x2 x4).2)))) (st1 := [.int ((f_X9_refusalsOn q v x2 x4).2), .int ((((10 : Int32) + ((20 : Int32) * x2)) + (12 : Int32)) + x4), .ref q_1]) (As := [.int x2, .int x4]) (rest := [.int ((((10 : Int32) + ((20 : Int32) * x2)) + (12 : Int32)) + x4), .ref q_1]) (c_X9_refusalsOnS l hlf G qh0 q_snapshot q_history q_program q_notice va q v x2 x4) ⟨hx, hb, hml, hown, hts⟩ g_L_227 hdv_X9_refusalsOn hK hST hS hP [0, 1, 2, 3, 4, 5, 6, 7, 8, 9, 10, 11, 12, 13, 14, 15, 16, 17, 18, 19, 20] rfl (k0 := 0) rfl rfl rfl ⟨Nat.le_of_ble_eq_true rfl, Nat.le_of_ble_eq_true rfl⟩ ⟨(by show _ ≤ 524; omega), (by show _ ≤ 3398; omega)⟩ rfl hl.1 rfl (Nat.le_of_ble_eq_true rfl) dL_seen_166 rfl (fun E ce q9 H hE h1 h2 h3 h4 h5 => absurd (hE.1.trans h_41) hE.2) (fun b_40 => ?_)
                  have hP := hP
                  have b_40 := b_40.2
                  have h_42 := hok.1
                  have hok := hok.2
                  refine va_iast hx hb hK hP hD hS 21 0 rfl rfl h_42 dL_seen_169 (fun H locs hP hD hS => ?_)
                  have hP : va_P G.1 vwCl (fl [[(qh0, .inr (11, [.ref (va 0), .ref q_snapshot, .int q.1, .ref q_history, .ref q_program, .ref q_notice, .int q.2.1, .int q.2.2]))], wSt G va v, [cArr G q_1 260 (upd (upd allL' ((((10 : Int32) + ((20 : Int32) * x2)) + (4 : Int32)) + x4).toNatClampNeg ((f_X9_entriesOn q v x2 x4).2)) ((((10 : Int32) + ((20 : Int32) * x2)) + (12 : Int32)) + x4).toNatClampNeg ((f_X9_refusalsOn q v x2 x4).2))]]) H := hP
                  have hD : va_D A (fl [[(qh0, .inr (11, [.ref (va 0), .ref q_snapshot, .int q.1, .ref q_history, .ref q_program, .ref q_notice, .int q.2.1, .int q.2.2]))], wSt G va v, [cArr G q_1 260 (upd (upd allL' ((((10 : Int32) + ((20 : Int32) * x2)) + (4 : Int32)) + x4).toNatClampNeg ((f_X9_entriesOn q v x2 x4).2)) ((((10 : Int32) + ((20 : Int32) * x2)) + (12 : Int32)) + x4).toNatClampNeg ((f_X9_refusalsOn q v x2 x4).2))]]) := hD
                  refine lv_iinc (v := (x4 + 1)) (lv' := [(4, .int (x4 + 1)), (3, .int ((10 : Int32) + ((20 : Int32) * x2))), (2, .int x2), (1, .ref q_1), (0, .ref qh0)]) hx hb dL_seen_170 hl (k := 0) rfl rfl (by decide) rfl (fun ls hl => ?_)
                  refine lv_goto (tgt := 132) hx hb dL_seen_173 (by decide) ?_
                  exact ih (x4 + 1) (upd (upd allL' ((((10 : Int32) + ((20 : Int32) * x2)) + (4 : Int32)) + x4).toNatClampNeg ((f_X9_entriesOn q v x2 x4).2)) ((((10 : Int32) + ((20 : Int32) * x2)) + (12 : Int32)) + x4).toNatClampNeg ((f_X9_refusalsOn q v x2 x4).2)) _ _ _ _ ls (lv_sub hl [0, 1, 2, 3, 4] rfl) hP hD hS (by omega) (by omega) hI hok
            refine W.widen (k := (kc_67 + 4)) (n := (ks_67 + 24)) (by omega) (by omega) ?_
            exact L132 9 (0 : Int32) (upd (upd (upd (upd allL ((10 : Int32) + ((20 : Int32) * x2)).toNatClampNeg ((f_X9_phasesOf q v x2).2)) (((10 : Int32) + ((20 : Int32) * x2)) + (1 : Int32)).toNatClampNeg ((f_X9_keyOf q v x2).2)) (((10 : Int32) + ((20 : Int32) * x2)) + (2 : Int32)).toNatClampNeg ((f_X9_hourCount q v x2).2)) (((10 : Int32) + ((20 : Int32) * x2)) + (3 : Int32)).toNatClampNeg (1 : Int32)) _ _ (kc_67 + 4) (ks_67 + 24) ls (lv_sub hl [0, 1, 2, 3, 4] rfl) hP hD hS (Nat.le_refl _) (Nat.le_refl _) rfl hkI
    refine W.widen (k := (7)) (n := (296)) (Nat.le_of_ble_eq_true rfl) (Nat.le_of_ble_eq_true rfl) ?_
    exact L67 9 (0 : Int32) r_11.2 _ _ (7) (296) ls (lv_sub hl [0, 1, 2] rfl) hP hD hS (Nat.le_refl _) (Nat.le_refl _) rfl hkI
  have L44 : ∀ (n : Nat) (x2 : Int32) (allL : Nat → Int32) (H : Heap) (locs : List Loc) (kc_44 ks_44 : Nat) (ls : Array Slot), lv_has ls 5 [(2, .int x2), (1, .ref q_1), (0, .ref qh0)] → va_P G.1 vwCl (fl [[(qh0, .inr (11, [.ref (va 0), .ref q_snapshot, .int q.1, .ref q_history, .ref q_program, .ref q_notice, .int q.2.1, .int q.2.2]))], wSt G va v, [cArr G q_1 260 allL]]) H → va_D A (fl [[(qh0, .inr (11, [.ref (va 0), .ref q_snapshot, .int q.1, .ref q_history, .ref q_program, .ref q_notice, .int q.2.1, .int q.2.2]))], wSt G va v, [cArr G q_1 260 allL]]) → va_S A s.heap H locs → kc_44 + n * 1 ≤ (1) + 6 → ks_44 + n * 6 ≤ (260) + 36 → (lp_L_seen_44 q v 6 (0 : Int32) (upd (upd (upd (upd (fun _ => 0) (0 : Int32).toNatClampNeg (((24 : Int32) * (f_X9_day q v)) + (f_X9_hour q v))) (1 : Int32).toNatClampNeg (f_X9_doorCount q v)) (2 : Int32).toNatClampNeg (f_X9_personCount q v)) (3 : Int32).toNatClampNeg (f_X9_exceptionCount q v))) = lp_L_seen_44 q v n x2 allL → okl_lp_L_seen_44 q v n x2 allL → W p l e (rmd 11 524 3398) s m ([.ref qh0] : List Value).toArray below meth c H locs kc_44 ks_44 (MQ below (wQ (fun u : Nat × Nat × (Nat → Int32) => some (.ref u.1)) (fun u : Nat × Nat × (Nat → Int32) => u.2 = f_L_seen q v) (fun u : Nat × Nat × (Nat → Int32) => fl [[(qh0, .inr (11, [.ref (va 0), .ref q_snapshot, .int q.1, .ref q_history, .ref q_program, .ref q_notice, .int q.2.1, .int q.2.2]))], wSt G va v, [(u.1, .inl (G.2.1 0, u.2.1, .inl u.2.2))]]) G.1 A) ([.ref qh0] : List Value).toArray s 524 3398 A) (F0 m 44 ls []) := by
    intro n
    induction n with
    | zero => intro x2 allL H locs kc_44 ks_44 ls hl _ _ _ _ _ hI hok; exact hok.elim
    | succ n ih =>
      intro x2 allL H locs kc_44 ks_44 ls hl hP hD hS hkc_44 hks_44 hI hok
      have hI : (lp_L_seen_44 q v 6 (0 : Int32) (upd (upd (upd (upd (fun _ => 0) (0 : Int32).toNatClampNeg (((24 : Int32) * (f_X9_day q v)) + (f_X9_hour q v))) (1 : Int32).toNatClampNeg (f_X9_doorCount q v)) (2 : Int32).toNatClampNeg (f_X9_personCount q v)) (3 : Int32).toNatClampNeg (f_X9_exceptionCount q v))) = (if (5 : Int32) ≤ x2 then (x2, allL) else (lp_L_seen_44 q v n (x2 + 1) (upd allL ((4 : Int32) + x2).toNatClampNeg ((f_X9_attemptsWith q v x2).2)))) := hI
      have hok : (if (5 : Int32) ≤ x2 then True else ((f_X9_attemptsWith q v x2).1 = "" ∧ (vp_in ((4 : Int32) + x2) 260 ∧ (okl_lp_L_seen_44 q v n (x2 + 1) (upd allL ((4 : Int32) + x2).toNatClampNeg ((f_X9_attemptsWith q v x2).2)))))) := hok
      refine lv_iload_n hx hb dL_seen_44 rfl (lv_at hl 0 rfl) ?_
      refine lv_iconst (v := (5 : Int32)) hx hb dL_seen_45 (by decide) ?_
      refine lv_icmp_ge (tgt := 65) hx hb dL_seen_46 (by decide) (fun c_7 => ?_) (fun c_7 => ?_)
      · have hI := hI.trans (if_pos c_7)
        have hok := Eq.mp (if_pos c_7) hok
        refine W.widen (k := (7)) (n := (296)) (by omega) (by omega) ?_
        exact K44 _ hI.symm _ _ ls (lv_sub hl [0, 1, 2] rfl) hP hD hS
      · have hI := hI.trans (if_neg c_7)
        have hok := Eq.mp (if_neg c_7) hok
        refine lv_aload_n hx hb dL_seen_49 rfl (lv_at hl 1 rfl) ?_
        refine lv_iconst (v := (4 : Int32)) hx hb dL_seen_50 (by decide) ?_
        refine lv_iload_n hx hb dL_seen_51 rfl (lv_at hl 0 rfl) ?_
        refine lv_iadd hx hb dL_seen_52 ?_
        refine lv_aload_n hx hb dL_seen_53 rfl (lv_at hl 2 rfl) ?_
        refine lv_iload_n hx hb dL_seen_54 rfl (lv_at hl 0 rfl) ?_
        have h_9 := hok.1
        have hok := hok.2
        refine xr_V (own := RL) (v := (some (.int ((f_X9_attemptsWith q v x2).2)))) (st1 := [.int ((f_X9_attemptsWith q v x2).2), .int ((4 : Int32) + x2), .ref q_1]) (As := [.int x2]) (rest := [.int ((4 : Int32) + x2), .ref q_1]) (c_X9_attemptsWithS l hlf G qh0 q_snapshot q_history q_program q_notice va q v x2) ⟨hx, hb, hml, hown, hts⟩ g_L_208 hdv_X9_attemptsWith hK hST hS hP [0, 1, 2, 3, 4, 5, 6, 7, 8, 9, 10, 11, 12, 13, 14, 15, 16, 17, 18, 19, 20] rfl (k0 := 0) rfl rfl rfl ⟨Nat.le_of_ble_eq_true rfl, Nat.le_of_ble_eq_true rfl⟩ ⟨(by show _ ≤ 524; omega), (by show _ ≤ 3398; omega)⟩ rfl hl.1 rfl (Nat.le_of_ble_eq_true rfl) dL_seen_55 rfl (fun E ce q9 H hE h1 h2 h3 h4 h5 => absurd (hE.1.trans h_9) hE.2) (fun b_8 => ?_)
        have hP := hP
        have b_8 := b_8.2
        have h_10 := hok.1
        have hok := hok.2
        refine va_iast hx hb hK hP hD hS 21 0 rfl rfl h_10 dL_seen_58 (fun H locs hP hD hS => ?_)
        have hP : va_P G.1 vwCl (fl [[(qh0, .inr (11, [.ref (va 0), .ref q_snapshot, .int q.1, .ref q_history, .ref q_program, .ref q_notice, .int q.2.1, .int q.2.2]))], wSt G va v, [cArr G q_1 260 (upd allL ((4 : Int32) + x2).toNatClampNeg ((f_X9_attemptsWith q v x2).2))]]) H := hP
        have hD : va_D A (fl [[(qh0, .inr (11, [.ref (va 0), .ref q_snapshot, .int q.1, .ref q_history, .ref q_program, .ref q_notice, .int q.2.1, .int q.2.2]))], wSt G va v, [cArr G q_1 260 (upd allL ((4 : Int32) + x2).toNatClampNeg ((f_X9_attemptsWith q v x2).2))]]) := hD
        refine lv_iinc (v := (x2 + 1)) (lv' := [(2, .int (x2 + 1)), (1, .ref q_1), (0, .ref qh0)]) hx hb dL_seen_59 hl (k := 0) rfl rfl (by decide) rfl (fun ls hl => ?_)
        refine lv_goto (tgt := 44) hx hb dL_seen_62 (by decide) ?_
        exact ih (x2 + 1) (upd allL ((4 : Int32) + x2).toNatClampNeg ((f_X9_attemptsWith q v x2).2)) _ _ _ _ ls (lv_sub hl [0, 1, 2] rfl) hP hD hS (by omega) (by omega) hI hok
  refine W.widen (k := (1)) (n := (260)) (Nat.le_of_ble_eq_true rfl) (Nat.le_of_ble_eq_true rfl) ?_
  exact L44 6 (0 : Int32) (upd (upd (upd (upd (fun _ => 0) (0 : Int32).toNatClampNeg (((24 : Int32) * (f_X9_day q v)) + (f_X9_hour q v))) (1 : Int32).toNatClampNeg (f_X9_doorCount q v)) (2 : Int32).toNatClampNeg (f_X9_personCount q v)) (3 : Int32).toNatClampNeg (f_X9_exceptionCount q v)) _ _ (1) (260) ls (lv_sub hl [0, 1, 2] rfl) hP hD hS (Nat.le_refl _) (Nat.le_refl _) rfl hkI
