theorem dX9_execute_0 : decode cX9_execute 0 = .ok (.aload_n 0, 1) := by decide +kernel
theorem dX9_execute_1 : decode cX9_execute 1 = .ok (.getfield 33, 3) := by decide +kernel
theorem dX9_execute_4 : decode cX9_execute 4 = .ok (.invokevirtual 307, 3) := by decide +kernel
theorem u_1306 : Cond.methodLink RX9 307 yX6_countCommands ∈ UW := uw 1306 (by decide +kernel) rfl
theorem u_1307 : Cond.instanceMethod yX6_countCommands ∈ UW := uw 1307 (by decide +kernel) rfl
theorem u_1308 : Cond.selects RX6 yX6_countCommands yX6_countCommands ∈ UW := uw 1308 (by decide +kernel) rfl
theorem u_1309 : Cond.code yX6_countCommands cX6_countCommands 2 (some .int) ∈ UW := uw 1309 (by decide +kernel) rfl
theorem g_X9_307 : GoodIn UW (wsV RX9 307 RX6 yX6_countCommands (wsU yX6_countCommands cX6_countCommands 2 (some .int))) := gV u_1306 u_1307 u_1308 u_28 u_1309
theorem hdv_X6_countCommands : yX6_countCommands.cls = RX6 ∧ yX6_countCommands.cls ≠ "java/lang/invoke/MethodHandle" ∧ yX6_countCommands.cls ≠ "java/lang/invoke/VarHandle" ∧ (parseMethodDescriptor yX6_countCommands.desc).map (fun d => d.parameters.length) = some 0 := by decide +kernel
theorem dX9_execute_7 : decode cX9_execute 7 = .ok (.istore_n 1, 1) := by decide +kernel
theorem dX9_execute_8 : decode cX9_execute 8 = .ok (.iload_n 1, 1) := by decide +kernel
theorem dX9_execute_9 : decode cX9_execute 9 = .ok (.iconst (-1), 1) := by decide +kernel
theorem dX9_execute_10 : decode cX9_execute 10 = .ok (.if_icmp .ne 32, 3) := by decide +kernel
theorem dX9_execute_42 : decode cX9_execute 42 = .ok (.aload_n 0, 1) := by decide +kernel
theorem dX9_execute_43 : decode cX9_execute 43 = .ok (.getfield 26, 3) := by decide +kernel
theorem dX9_execute_46 : decode cX9_execute 46 = .ok (.aload_n 0, 1) := by decide +kernel
theorem dX9_execute_47 : decode cX9_execute 47 = .ok (.getfield 10, 3) := by decide +kernel
theorem dX9_execute_50 : decode cX9_execute 50 = .ok (.invokevirtual 321, 3) := by decide +kernel
theorem u_1376 : Cond.methodLink RX9 321 yX4_draft ∈ UW := uw 1376 (by decide +kernel) rfl
theorem g_X9_321 : GoodIn UW (wsV RX9 321 RX4 yX4_draft (wsU yX4_draft cX4_draft 2 none)) := gV u_1376 u_670 u_671 u_27 u_672
theorem dX9_execute_53 : decode cX9_execute 53 = .ok (.aload_n 0, 1) := by decide +kernel
theorem dX9_execute_54 : decode cX9_execute 54 = .ok (.iload_n 1, 1) := by decide +kernel
theorem dX9_execute_55 : decode cX9_execute 55 = .ok (.invokevirtual 324, 3) := by decide +kernel
theorem u_1377 : Cond.methodLink RX9 324 yX9_runCommands ∈ UW := uw 1377 (by decide +kernel) rfl
theorem u_1379 : Cond.instanceMethod yX9_runCommands ∈ UW := uw 1379 (by decide +kernel) rfl
theorem u_15 : Cond.selects RX9 yX9_runCommands yX9_runCommands ∈ UW := uw 15 (by decide +kernel) rfl
theorem u_1380 : Cond.code yX9_runCommands cX9_runCommands 3 (some .int) ∈ UW := uw 1380 (by decide +kernel) rfl
theorem g_X9_324 : GoodIn UW (wsV RX9 324 RX9 yX9_runCommands (wsU yX9_runCommands cX9_runCommands 3 (some .int))) := gV u_1377 u_1379 u_15 u_21 u_1380
theorem hdv_X9_runCommands : yX9_runCommands.cls = RX9 ∧ yX9_runCommands.cls ≠ "java/lang/invoke/MethodHandle" ∧ yX9_runCommands.cls ≠ "java/lang/invoke/VarHandle" ∧ (parseMethodDescriptor yX9_runCommands.desc).map (fun d => d.parameters.length) = some 1 := by decide +kernel
theorem dX9_execute_58 : decode cX9_execute 58 = .ok (.istore_n 2, 1) := by decide +kernel
theorem dX9_execute_59 : decode cX9_execute 59 = .ok (.aload_n 0, 1) := by decide +kernel
theorem dX9_execute_60 : decode cX9_execute 60 = .ok (.getfield 33, 3) := by decide +kernel
theorem dX9_execute_63 : decode cX9_execute 63 = .ok (.invokevirtual 313, 3) := by decide +kernel
theorem u_1370 : Cond.methodLink RX9 313 yX6_clear ∈ UW := uw 1370 (by decide +kernel) rfl
theorem u_1371 : Cond.instanceMethod yX6_clear ∈ UW := uw 1371 (by decide +kernel) rfl
theorem u_1372 : Cond.selects RX6 yX6_clear yX6_clear ∈ UW := uw 1372 (by decide +kernel) rfl
theorem u_1373 : Cond.code yX6_clear cX6_clear 1 none ∈ UW := uw 1373 (by decide +kernel) rfl
theorem g_X9_313 : GoodIn UW (wsV RX9 313 RX6 yX6_clear (wsU yX6_clear cX6_clear 1 none)) := gV u_1370 u_1371 u_1372 u_28 u_1373
theorem hdv_X6_clear : yX6_clear.cls = RX6 ∧ yX6_clear.cls ≠ "java/lang/invoke/MethodHandle" ∧ yX6_clear.cls ≠ "java/lang/invoke/VarHandle" ∧ (parseMethodDescriptor yX6_clear.desc).map (fun d => d.parameters.length) = some 0 := by decide +kernel
theorem dX9_execute_66 : decode cX9_execute 66 = .ok (.iload_n 2, 1) := by decide +kernel
theorem dX9_execute_67 : decode cX9_execute 67 = .ok (.iconst (-1), 1) := by decide +kernel
theorem dX9_execute_68 : decode cX9_execute 68 = .ok (.if_icmp .eq 30, 3) := by decide +kernel
theorem dX9_execute_98 : decode cX9_execute 98 = .ok (.aload_n 0, 1) := by decide +kernel
theorem dX9_execute_99 : decode cX9_execute 99 = .ok (.getfield 26, 3) := by decide +kernel
theorem dX9_execute_102 : decode cX9_execute 102 = .ok (.invokevirtual 332, 3) := by decide +kernel
theorem u_1398 : Cond.methodLink RX9 332 yX4_keepDraft ∈ UW := uw 1398 (by decide +kernel) rfl
theorem g_X9_332 : GoodIn UW (wsV RX9 332 RX4 yX4_keepDraft (wsU yX4_keepDraft cX4_keepDraft 1 none)) := gV u_1398 u_683 u_684 u_27 u_685
theorem dX9_execute_105 : decode cX9_execute 105 = .ok (.iload_n 1, 1) := by decide +kernel
theorem dX9_execute_106 : decode cX9_execute 106 = .ok (.ireturn, 1) := by decide +kernel
theorem dX9_execute_71 : decode cX9_execute 71 = .ok (.aload_n 0, 1) := by decide +kernel
theorem dX9_execute_72 : decode cX9_execute 72 = .ok (.getfield 26, 3) := by decide +kernel
theorem dX9_execute_75 : decode cX9_execute 75 = .ok (.aload_n 0, 1) := by decide +kernel
theorem dX9_execute_76 : decode cX9_execute 76 = .ok (.getfield 10, 3) := by decide +kernel
theorem dX9_execute_79 : decode cX9_execute 79 = .ok (.invokevirtual 327, 3) := by decide +kernel
theorem u_1393 : Cond.methodLink RX9 327 yX4_dropDraft ∈ UW := uw 1393 (by decide +kernel) rfl
theorem u_1394 : Cond.instanceMethod yX4_dropDraft ∈ UW := uw 1394 (by decide +kernel) rfl
theorem u_1395 : Cond.selects RX4 yX4_dropDraft yX4_dropDraft ∈ UW := uw 1395 (by decide +kernel) rfl
theorem u_1396 : Cond.code yX4_dropDraft cX4_dropDraft 2 none ∈ UW := uw 1396 (by decide +kernel) rfl
theorem g_X9_327 : GoodIn UW (wsV RX9 327 RX4 yX4_dropDraft (wsU yX4_dropDraft cX4_dropDraft 2 none)) := gV u_1393 u_1394 u_1395 u_27 u_1396
theorem hdv_X4_dropDraft : yX4_dropDraft.cls = RX4 ∧ yX4_dropDraft.cls ≠ "java/lang/invoke/MethodHandle" ∧ yX4_dropDraft.cls ≠ "java/lang/invoke/VarHandle" ∧ (parseMethodDescriptor yX4_dropDraft.desc).map (fun d => d.parameters.length) = some 1 := by decide +kernel
theorem dX9_execute_82 : decode cX9_execute 82 = .ok (.aload_n 0, 1) := by decide +kernel
theorem dX9_execute_83 : decode cX9_execute 83 = .ok (.iload_n 2, 1) := by decide +kernel
theorem dX9_execute_84 : decode cX9_execute 84 = .ok (.putfield 48, 3) := by decide +kernel
theorem u_1104 : Cond.fieldLink RX9 48 "MoonlitDoors" "lastFailedCommand" "I" ∈ UW := uw 1104 (by decide +kernel) rfl
theorem dX9_execute_87 : decode cX9_execute 87 = .ok (.new 158, 3) := by decide +kernel
theorem dX9_execute_90 : decode cX9_execute 90 = .ok (.dup, 1) := by decide +kernel
theorem dX9_execute_91 : decode cX9_execute 91 = .ok (.ldc_w 330, 3) := by decide +kernel
theorem dX9_execute_94 : decode cX9_execute 94 = .ok (.invokespecial 162, 3) := by decide +kernel
theorem dX9_execute_97 : decode cX9_execute 97 = .ok (.athrow, 1) := by decide +kernel
theorem dX9_execute_13 : decode cX9_execute 13 = .ok (.aload_n 0, 1) := by decide +kernel
theorem dX9_execute_14 : decode cX9_execute 14 = .ok (.aload_n 0, 1) := by decide +kernel
theorem dX9_execute_15 : decode cX9_execute 15 = .ok (.getfield 33, 3) := by decide +kernel
theorem dX9_execute_18 : decode cX9_execute 18 = .ok (.getfield 310, 3) := by decide +kernel
theorem u_1076 : Cond.fieldLink RX9 310 "MoonlitDoors$Program" "position" "I" ∈ UW := uw 1076 (by decide +kernel) rfl
theorem dX9_execute_21 : decode cX9_execute 21 = .ok (.putfield 44, 3) := by decide +kernel
theorem u_1103 : Cond.fieldLink RX9 44 "MoonlitDoors" "lastErrorPosition" "I" ∈ UW := uw 1103 (by decide +kernel) rfl
theorem dX9_execute_24 : decode cX9_execute 24 = .ok (.aload_n 0, 1) := by decide +kernel
theorem dX9_execute_25 : decode cX9_execute 25 = .ok (.getfield 33, 3) := by decide +kernel
theorem dX9_execute_28 : decode cX9_execute 28 = .ok (.invokevirtual 313, 3) := by decide +kernel
theorem dX9_execute_31 : decode cX9_execute 31 = .ok (.new 316, 3) := by decide +kernel
theorem dX9_execute_34 : decode cX9_execute 34 = .ok (.dup, 1) := by decide +kernel
theorem dX9_execute_35 : decode cX9_execute 35 = .ok (.ldc_w 318, 3) := by decide +kernel
theorem dX9_execute_38 : decode cX9_execute 38 = .ok (.invokespecial 320, 3) := by decide +kernel
theorem dX9_execute_41 : decode cX9_execute 41 = .ok (.athrow, 1) := by decide +kernel
set_option maxHeartbeats 40000000 in
set_option maxRecDepth 100000 in
set_option linter.constructorNameAsVariable false in
theorem c_X9_execute (l : Launch) (hlf : l.stackTraces = false) (G : GG) (qh0 : Nat) (q_snapshot : Nat) (q_notice : Nat) (va : Nat → Nat) (hih0 : Nat) (hsh : Nat) (hsa : Nat → Nat → Nat) (pgh0 : Nat) (tbh0 : Nat) (tbh1 : Nat) (sz : Nat) (q : McV) (v : StV) (hi : HiV) (hs : Nat → StV) (pg : PrV) (tb : SbV) (hok : ok_X9_execute q v hi hs pg tb) (hyp_nx : nx9 hi.2) : xxMet l yX9_execute cX9_execute 3 (some .int) 11 2 206 G (fl [[(qh0, .inr (11, [.ref (va 0), .ref q_snapshot, .int q.1, .ref hih0, .ref pgh0, .ref q_notice, .int q.2.1, .int q.2.2]))], wSt G va v, [(hih0, .inr (7, [.int hi.1, .int hi.2, .ref hsh]))], wHs G hsh hsa hs, [(pgh0, .inr (9, [.int pg.1, .int pg.2.1, .int pg.2.2.1, .int pg.2.2.2, .ref tbh0]))], [(tbh0, .inr (1, [.ref tbh1, .int (0 : Int32), .int tb.2.2.1, .int tb.2.2.2]))], [(tbh1, .inl (G.2.1 2, tb.1, .inl tb.2.1))]]) [.ref qh0] sz (fun u : Nat × String × Int32 × McV × StV × HiV × (Nat → StV) × PrV × SbV => some (.int u.2.2.1)) (fun u : Nat × String × Int32 × McV × StV × HiV × (Nat → StV) × PrV × SbV => u.2 = f_X9_execute q v hi hs pg tb ∧ (f_X9_execute q v hi hs pg tb).1 = "" ∧ True) (fun u : Nat × String × Int32 × McV × StV × HiV × (Nat → StV) × PrV × SbV => fl [[(qh0, .inr (11, [.ref (va 0), .ref q_snapshot, .int u.2.2.2.1.1, .ref hih0, .ref pgh0, .ref q_notice, .int u.2.2.2.1.2.1, .int u.2.2.2.1.2.2]))], wSt G va u.2.2.2.2.1, [(hih0, .inr (7, [.int u.2.2.2.2.2.1.1, .int u.2.2.2.2.2.1.2, .ref hsh]))], wHs G hsh hsa u.2.2.2.2.2.2.1, [(pgh0, .inr (9, [.int u.2.2.2.2.2.2.2.1.1, .int u.2.2.2.2.2.2.2.1.2.1, .int u.2.2.2.2.2.2.2.1.2.2.1, .int u.2.2.2.2.2.2.2.1.2.2.2, .ref tbh0]))], [(tbh0, .inr (1, [.ref u.1, .int (0 : Int32), .int u.2.2.2.2.2.2.2.2.2.2.1, .int u.2.2.2.2.2.2.2.2.2.2.2]))], [(u.1, .inl (G.2.1 2, u.2.2.2.2.2.2.2.2.1, .inl u.2.2.2.2.2.2.2.2.2.1))]]) (fun (E : String) (u : Nat × String × Int32 × McV × StV × HiV × (Nat → StV) × PrV × SbV) => u.2 = f_X9_execute q v hi hs pg tb ∧ E = u.2.1 ∧ E ≠ "") := by
  refine xx_start (by decide +kernel) (Nat.le_of_ble_eq_true rfl) ?_
  intro p e s m below meth c A hx hb hr hml hts hown hlk hxt hP hD hA hK hST ls hl
  have hS : va_S A s.heap s.heap [] := va_S.rf
  have hown : s.vm.findClass RX9 = some m.cls := hown
  have hl : lv_has ls 3 [(0, .ref qh0)] := hl
  have hF : f_X9_execute q v hi hs pg tb = (let u_3 : Int32 × PrV := (f_X6_countCommands pg tb); (if u_3.1 = (-1 : Int32) then (let u_20 : SbV := (f_X6_clear u_3.2 tb); ("java/lang/IllegalArgumentException", 0, (q.1, u_3.2.1, q.2.2), v, hi, hs, u_3.2, u_20)) else (let u_6 : (Nat → StV) := (f_X4_draft hi hs v); (let u_9 : Int32 × StV × PrV := (f_X9_runCommands q v u_3.2 tb u_3.1); (let u_12 : SbV := (f_X6_clear u_9.2.2 tb); (if u_9.1 = (-1 : Int32) then (let u_15 : HiV := (f_X4_keepDraft hi); ("", u_3.1, q, u_9.2.1, u_15, u_6, u_9.2.2, u_12)) else (let u_17 : StV := (f_X4_dropDraft hi u_6 u_9.2.1); ("java/lang/IllegalStateException", 0, (q.1, q.2.1, u_9.1), u_17, hi, u_6, u_9.2.2, u_12)))))))) := rfl
  have hok : (ok_X6_countCommands pg tb ∧ (∀ u_3 : Int32 × PrV, u_3 = (f_X6_countCommands pg tb) → (if u_3.1 = (-1 : Int32) then (ok_X6_clear u_3.2 tb ∧ True) else (∀ u_6 : (Nat → StV), u_6 = (f_X4_draft hi hs v) → (ok_X9_runCommands q v u_3.2 tb u_3.1 ∧ (∀ u_9 : Int32 × StV × PrV, u_9 = (f_X9_runCommands q v u_3.2 tb u_3.1) → (ok_X6_clear u_9.2.2 tb ∧ True))))))) := hok
  refine lv_aload_n hx hb dX9_execute_0 rfl (lv_at hl 0 rfl) ?_
  refine va_get (D := G.1) (ci := 11) (v := .ref pgh0) (C := RX9) (T := TX9) (N := 8) hx hb hts uws_X9 hown hK hP 0 rfl rfl 4 (by decide) (hts _ u_1101) (fun _ h9 => h9) rfl dX9_execute_1 ?_
  have k_1 := hok.1
  have hok := hok.2
  refine w_V (own := RX9) (cs := [[(pgh0, .inr (9, [.int pg.1, .int pg.2.1, .int pg.2.2.1, .int pg.2.2.2, .ref tbh0]))], [(tbh0, .inr (1, [.ref tbh1, .int (0 : Int32), .int tb.2.2.1, .int tb.2.2.2]))], [(tbh1, .inl (G.2.1 2, tb.1, .inl tb.2.1))]]) (rs := [[(qh0, .inr (11, [.ref (va 0), .ref q_snapshot, .int q.1, .ref hih0, .ref pgh0, .ref q_notice, .int q.2.1, .int q.2.2]))], wSt G va v, [(hih0, .inr (7, [.int hi.1, .int hi.2, .ref hsh]))], wHs G hsh hsa hs]) (As := []) (rest := []) (c_X6_countCommands l G pgh0 tbh0 tbh1 s.heap.size pg tb k_1) ⟨hx, hb, hml, hown, hts⟩ g_X9_307 hdv_X6_countCommands hK hST hS hP hD hA [4, 5, 6] [0, 1, 2, 3] rfl rfl rfl (k0 := 0) rfl rfl rfl ⟨Nat.le_of_ble_eq_true rfl, Nat.le_of_ble_eq_true rfl⟩ ⟨Nat.le_of_ble_eq_true rfl, Nat.le_of_ble_eq_true rfl⟩ rfl hl.1 rfl (Nat.le_of_ble_eq_true rfl) dX9_execute_4 (fun u_3 H locs huu hP hD hS => ?_)
  have eu_3 := huu
  have hP : va_P G.1 vwCl (fl [[(pgh0, .inr (9, [.int u_3.2.1, .int u_3.2.2.1, .int u_3.2.2.2.1, .int u_3.2.2.2.2, .ref tbh0]))], [(tbh0, .inr (1, [.ref tbh1, .int (0 : Int32), .int tb.2.2.1, .int tb.2.2.2]))], [(tbh1, .inl (G.2.1 2, tb.1, .inl tb.2.1))], [(qh0, .inr (11, [.ref (va 0), .ref q_snapshot, .int q.1, .ref hih0, .ref pgh0, .ref q_notice, .int q.2.1, .int q.2.2]))], wSt G va v, [(hih0, .inr (7, [.int hi.1, .int hi.2, .ref hsh]))], wHs G hsh hsa hs]) H := hP
  have hD : va_D A (fl [[(pgh0, .inr (9, [.int u_3.2.1, .int u_3.2.2.1, .int u_3.2.2.2.1, .int u_3.2.2.2.2, .ref tbh0]))], [(tbh0, .inr (1, [.ref tbh1, .int (0 : Int32), .int tb.2.2.1, .int tb.2.2.2]))], [(tbh1, .inl (G.2.1 2, tb.1, .inl tb.2.1))], [(qh0, .inr (11, [.ref (va 0), .ref q_snapshot, .int q.1, .ref hih0, .ref pgh0, .ref q_notice, .int q.2.1, .int q.2.2]))], wSt G va v, [(hih0, .inr (7, [.int hi.1, .int hi.2, .ref hsh]))], wHs G hsh hsa hs]) := hD
  refine W.eq (g2 := F0 m 7 ls [.int u_3.1]) rfl ?_
  have hF : f_X9_execute q v hi hs pg tb = (if u_3.1 = (-1 : Int32) then (let u_20 : SbV := (f_X6_clear u_3.2 tb); ("java/lang/IllegalArgumentException", 0, (q.1, u_3.2.1, q.2.2), v, hi, hs, u_3.2, u_20)) else (let u_6 : (Nat → StV) := (f_X4_draft hi hs v); (let u_9 : Int32 × StV × PrV := (f_X9_runCommands q v u_3.2 tb u_3.1); (let u_12 : SbV := (f_X6_clear u_9.2.2 tb); (if u_9.1 = (-1 : Int32) then (let u_15 : HiV := (f_X4_keepDraft hi); ("", u_3.1, q, u_9.2.1, u_15, u_6, u_9.2.2, u_12)) else (let u_17 : StV := (f_X4_dropDraft hi u_6 u_9.2.1); ("java/lang/IllegalStateException", 0, (q.1, q.2.1, u_9.1), u_17, hi, u_6, u_9.2.2, u_12))))))) := by subst eu_3; exact hF
  have hok : (if u_3.1 = (-1 : Int32) then (ok_X6_clear u_3.2 tb ∧ True) else (∀ u_6 : (Nat → StV), u_6 = (f_X4_draft hi hs v) → (ok_X9_runCommands q v u_3.2 tb u_3.1 ∧ (∀ u_9 : Int32 × StV × PrV, u_9 = (f_X9_runCommands q v u_3.2 tb u_3.1) → (ok_X6_clear u_9.2.2 tb ∧ True))))) := hok _ eu_3
  refine lv_istore_n (lv' := [(1, .int u_3.1), (0, .ref qh0)]) hx hb dX9_execute_7 rfl hl (by decide) rfl (fun ls hl => ?_)
  refine lv_iload_n hx hb dX9_execute_8 rfl (lv_at hl 0 rfl) ?_
  refine lv_iconst (v := (-1 : Int32)) hx hb dX9_execute_9 (by decide) ?_
  refine lv_icmp_ne (tgt := 42) hx hb dX9_execute_10 (by decide) (fun c_4 => ?_) (fun c_4 => ?_)
  · have hF := hF.trans (if_neg c_4)
    have hok := Eq.mp (if_neg c_4) hok
    refine lv_aload_n hx hb dX9_execute_42 rfl (lv_at hl 1 rfl) ?_
    refine va_get (D := G.1) (ci := 11) (v := .ref hih0) (C := RX9) (T := TX9) (N := 8) hx hb hts uws_X9 hown hK hP 3 rfl rfl 3 (by decide) (hts _ u_1100) (fun _ h9 => h9) rfl dX9_execute_43 ?_
    refine lv_aload_n hx hb dX9_execute_46 rfl (lv_at hl 1 rfl) ?_
    refine va_get (D := G.1) (ci := 11) (v := .ref (va 0)) (C := RX9) (T := TX9) (N := 8) hx hb hts uws_X9 hown hK hP 3 rfl rfl 0 (by decide) (hts _ u_1097) (fun _ h9 => h9) rfl dX9_execute_47 ?_
    refine w_V (own := RX9) (cs := [[(hih0, .inr (7, [.int hi.1, .int hi.2, .ref hsh]))], wHs G hsh hsa hs, wSt G va v]) (rs := [[(pgh0, .inr (9, [.int u_3.2.1, .int u_3.2.2.1, .int u_3.2.2.2.1, .int u_3.2.2.2.2, .ref tbh0]))], [(tbh0, .inr (1, [.ref tbh1, .int (0 : Int32), .int tb.2.2.1, .int tb.2.2.2]))], [(tbh1, .inl (G.2.1 2, tb.1, .inl tb.2.1))], [(qh0, .inr (11, [.ref (va 0), .ref q_snapshot, .int q.1, .ref hih0, .ref pgh0, .ref q_notice, .int q.2.1, .int q.2.2]))]]) (As := [.ref (va 0)]) (rest := []) (c_X4_draftS l G hih0 hsh hsa va H.size hi hs v hyp_nx) ⟨hx, hb, hml, hown, hts⟩ g_X9_321 hdv_X4_draft hK hST hS hP hD hA [5, 6, 4] [0, 1, 2, 3] rfl rfl rfl (k0 := 0) rfl rfl rfl ⟨Nat.le_of_ble_eq_true rfl, Nat.le_of_ble_eq_true rfl⟩ ⟨Nat.le_of_ble_eq_true rfl, Nat.le_of_ble_eq_true rfl⟩ rfl hl.1 rfl (Nat.le_of_ble_eq_true rfl) dX9_execute_50 (fun u_6 H locs huu hP hD hS => ?_)
    have eu_6 := huu
    have hP : va_P G.1 vwCl (fl [[(hih0, .inr (7, [.int hi.1, .int hi.2, .ref hsh]))], wHs G hsh hsa u_6, wSt G va v, [(pgh0, .inr (9, [.int u_3.2.1, .int u_3.2.2.1, .int u_3.2.2.2.1, .int u_3.2.2.2.2, .ref tbh0]))], [(tbh0, .inr (1, [.ref tbh1, .int (0 : Int32), .int tb.2.2.1, .int tb.2.2.2]))], [(tbh1, .inl (G.2.1 2, tb.1, .inl tb.2.1))], [(qh0, .inr (11, [.ref (va 0), .ref q_snapshot, .int q.1, .ref hih0, .ref pgh0, .ref q_notice, .int q.2.1, .int q.2.2]))]]) H := hP
    have hD : va_D A (fl [[(hih0, .inr (7, [.int hi.1, .int hi.2, .ref hsh]))], wHs G hsh hsa u_6, wSt G va v, [(pgh0, .inr (9, [.int u_3.2.1, .int u_3.2.2.1, .int u_3.2.2.2.1, .int u_3.2.2.2.2, .ref tbh0]))], [(tbh0, .inr (1, [.ref tbh1, .int (0 : Int32), .int tb.2.2.1, .int tb.2.2.2]))], [(tbh1, .inl (G.2.1 2, tb.1, .inl tb.2.1))], [(qh0, .inr (11, [.ref (va 0), .ref q_snapshot, .int q.1, .ref hih0, .ref pgh0, .ref q_notice, .int q.2.1, .int q.2.2]))]]) := hD
    refine W.eq (g2 := F0 m 53 ls []) rfl ?_
    have hF : f_X9_execute q v hi hs pg tb = (let u_9 : Int32 × StV × PrV := (f_X9_runCommands q v u_3.2 tb u_3.1); (let u_12 : SbV := (f_X6_clear u_9.2.2 tb); (if u_9.1 = (-1 : Int32) then (let u_15 : HiV := (f_X4_keepDraft hi); ("", u_3.1, q, u_9.2.1, u_15, u_6, u_9.2.2, u_12)) else (let u_17 : StV := (f_X4_dropDraft hi u_6 u_9.2.1); ("java/lang/IllegalStateException", 0, (q.1, q.2.1, u_9.1), u_17, hi, u_6, u_9.2.2, u_12))))) := by subst eu_6; exact hF
    have hok : (ok_X9_runCommands q v u_3.2 tb u_3.1 ∧ (∀ u_9 : Int32 × StV × PrV, u_9 = (f_X9_runCommands q v u_3.2 tb u_3.1) → (ok_X6_clear u_9.2.2 tb ∧ True))) := hok _ eu_6
    refine lv_aload_n hx hb dX9_execute_53 rfl (lv_at hl 1 rfl) ?_
    refine lv_iload_n hx hb dX9_execute_54 rfl (lv_at hl 0 rfl) ?_
    have k_7 := hok.1
    have hok := hok.2
    refine w_V (own := RX9) (cs := [[(qh0, .inr (11, [.ref (va 0), .ref q_snapshot, .int q.1, .ref hih0, .ref pgh0, .ref q_notice, .int q.2.1, .int q.2.2]))], wSt G va v, [(pgh0, .inr (9, [.int u_3.2.1, .int u_3.2.2.1, .int u_3.2.2.2.1, .int u_3.2.2.2.2, .ref tbh0]))], [(tbh0, .inr (1, [.ref tbh1, .int (0 : Int32), .int tb.2.2.1, .int tb.2.2.2]))], [(tbh1, .inl (G.2.1 2, tb.1, .inl tb.2.1))]]) (rs := [[(hih0, .inr (7, [.int hi.1, .int hi.2, .ref hsh]))], wHs G hsh hsa u_6]) (As := [.int u_3.1]) (rest := []) (c_X9_runCommands l G qh0 q_snapshot hih0 q_notice va pgh0 tbh0 tbh1 H.size q v u_3.2 tb u_3.1 k_7) ⟨hx, hb, hml, hown, hts⟩ g_X9_324 hdv_X9_runCommands hK hST hS hP hD hA [6, 2, 3, 4, 5] [0, 1] rfl rfl rfl (k0 := 0) rfl rfl rfl ⟨Nat.le_of_ble_eq_true rfl, Nat.le_of_ble_eq_true rfl⟩ ⟨Nat.le_of_ble_eq_true rfl, Nat.le_of_ble_eq_true rfl⟩ rfl hl.1 rfl (Nat.le_of_ble_eq_true rfl) dX9_execute_55 (fun u_9 H locs huu hP hD hS => ?_)
    have eu_9 := huu
    have hP : va_P G.1 vwCl (fl [[(qh0, .inr (11, [.ref (va 0), .ref q_snapshot, .int q.1, .ref hih0, .ref pgh0, .ref q_notice, .int q.2.1, .int q.2.2]))], wSt G va u_9.2.1, [(pgh0, .inr (9, [.int u_9.2.2.1, .int u_9.2.2.2.1, .int u_9.2.2.2.2.1, .int u_9.2.2.2.2.2, .ref tbh0]))], [(tbh0, .inr (1, [.ref tbh1, .int (0 : Int32), .int tb.2.2.1, .int tb.2.2.2]))], [(tbh1, .inl (G.2.1 2, tb.1, .inl tb.2.1))], [(hih0, .inr (7, [.int hi.1, .int hi.2, .ref hsh]))], wHs G hsh hsa u_6]) H := hP
    have hD : va_D A (fl [[(qh0, .inr (11, [.ref (va 0), .ref q_snapshot, .int q.1, .ref hih0, .ref pgh0, .ref q_notice, .int q.2.1, .int q.2.2]))], wSt G va u_9.2.1, [(pgh0, .inr (9, [.int u_9.2.2.1, .int u_9.2.2.2.1, .int u_9.2.2.2.2.1, .int u_9.2.2.2.2.2, .ref tbh0]))], [(tbh0, .inr (1, [.ref tbh1, .int (0 : Int32), .int tb.2.2.1, .int tb.2.2.2]))], [(tbh1, .inl (G.2.1 2, tb.1, .inl tb.2.1))], [(hih0, .inr (7, [.int hi.1, .int hi.2, .ref hsh]))], wHs G hsh hsa u_6]) := hD
    refine W.eq (g2 := F0 m 58 ls [.int u_9.1]) rfl ?_
    have hF : f_X9_execute q v hi hs pg tb = (let u_12 : SbV := (f_X6_clear u_9.2.2 tb); (if u_9.1 = (-1 : Int32) then (let u_15 : HiV := (f_X4_keepDraft hi); ("", u_3.1, q, u_9.2.1, u_15, u_6, u_9.2.2, u_12)) else (let u_17 : StV := (f_X4_dropDraft hi u_6 u_9.2.1); ("java/lang/IllegalStateException", 0, (q.1, q.2.1, u_9.1), u_17, hi, u_6, u_9.2.2, u_12)))) := by subst eu_9; exact hF
    have hok : (ok_X6_clear u_9.2.2 tb ∧ True) := hok _ eu_9
    refine lv_istore_n (lv' := [(2, .int u_9.1), (1, .int u_3.1), (0, .ref qh0)]) hx hb dX9_execute_58 rfl hl (by decide) rfl (fun ls hl => ?_)
    refine lv_aload_n hx hb dX9_execute_59 rfl (lv_at hl 2 rfl) ?_
    refine va_get (D := G.1) (ci := 11) (v := .ref pgh0) (C := RX9) (T := TX9) (N := 8) hx hb hts uws_X9 hown hK hP 0 rfl rfl 4 (by decide) (hts _ u_1101) (fun _ h9 => h9) rfl dX9_execute_60 ?_
    have k_10 := hok.1
    have hok := hok.2
    refine w_V (own := RX9) (cs := [[(pgh0, .inr (9, [.int u_9.2.2.1, .int u_9.2.2.2.1, .int u_9.2.2.2.2.1, .int u_9.2.2.2.2.2, .ref tbh0]))], [(tbh0, .inr (1, [.ref tbh1, .int (0 : Int32), .int tb.2.2.1, .int tb.2.2.2]))], [(tbh1, .inl (G.2.1 2, tb.1, .inl tb.2.1))]]) (rs := [[(qh0, .inr (11, [.ref (va 0), .ref q_snapshot, .int q.1, .ref hih0, .ref pgh0, .ref q_notice, .int q.2.1, .int q.2.2]))], wSt G va u_9.2.1, [(hih0, .inr (7, [.int hi.1, .int hi.2, .ref hsh]))], wHs G hsh hsa u_6]) (As := []) (rest := []) (c_X6_clear l G pgh0 tbh0 tbh1 H.size u_9.2.2 tb k_10) ⟨hx, hb, hml, hown, hts⟩ g_X9_313 hdv_X6_clear hK hST hS hP hD hA [2, 3, 4] [0, 1, 5, 6] rfl rfl rfl (k0 := 0) rfl rfl rfl ⟨Nat.le_of_ble_eq_true rfl, Nat.le_of_ble_eq_true rfl⟩ ⟨Nat.le_of_ble_eq_true rfl, Nat.le_of_ble_eq_true rfl⟩ rfl hl.1 rfl (Nat.le_of_ble_eq_true rfl) dX9_execute_63 (fun u_12 H locs huu hP hD hS => ?_)
    obtain ⟨qu_12, u_12⟩ := u_12
    have eu_12 : u_12 = (f_X6_clear u_9.2.2 tb) := huu
    have hP : va_P G.1 vwCl (fl [[(pgh0, .inr (9, [.int u_9.2.2.1, .int u_9.2.2.2.1, .int u_9.2.2.2.2.1, .int u_9.2.2.2.2.2, .ref tbh0]))], [(tbh0, .inr (1, [.ref qu_12, .int (0 : Int32), .int u_12.2.2.1, .int u_12.2.2.2]))], [(qu_12, .inl (G.2.1 2, u_12.1, .inl u_12.2.1))], [(qh0, .inr (11, [.ref (va 0), .ref q_snapshot, .int q.1, .ref hih0, .ref pgh0, .ref q_notice, .int q.2.1, .int q.2.2]))], wSt G va u_9.2.1, [(hih0, .inr (7, [.int hi.1, .int hi.2, .ref hsh]))], wHs G hsh hsa u_6]) H := hP
    have hD : va_D A (fl [[(pgh0, .inr (9, [.int u_9.2.2.1, .int u_9.2.2.2.1, .int u_9.2.2.2.2.1, .int u_9.2.2.2.2.2, .ref tbh0]))], [(tbh0, .inr (1, [.ref qu_12, .int (0 : Int32), .int u_12.2.2.1, .int u_12.2.2.2]))], [(qu_12, .inl (G.2.1 2, u_12.1, .inl u_12.2.1))], [(qh0, .inr (11, [.ref (va 0), .ref q_snapshot, .int q.1, .ref hih0, .ref pgh0, .ref q_notice, .int q.2.1, .int q.2.2]))], wSt G va u_9.2.1, [(hih0, .inr (7, [.int hi.1, .int hi.2, .ref hsh]))], wHs G hsh hsa u_6]) := hD
    refine W.eq (g2 := F0 m 66 ls []) rfl ?_
    have hF : f_X9_execute q v hi hs pg tb = (if u_9.1 = (-1 : Int32) then (let u_15 : HiV := (f_X4_keepDraft hi); ("", u_3.1, q, u_9.2.1, u_15, u_6, u_9.2.2, u_12)) else (let u_17 : StV := (f_X4_dropDraft hi u_6 u_9.2.1); ("java/lang/IllegalStateException", 0, (q.1, q.2.1, u_9.1), u_17, hi, u_6, u_9.2.2, u_12))) := by subst eu_12; exact hF
    refine lv_iload_n hx hb dX9_execute_66 rfl (lv_at hl 0 rfl) ?_
    refine lv_iconst (v := (-1 : Int32)) hx hb dX9_execute_67 (by decide) ?_
    refine lv_icmp_eq (tgt := 98) hx hb dX9_execute_68 (by decide) (fun c_13 => ?_) (fun c_13 => ?_)
    · have hF := hF.trans (if_pos c_13)
      refine lv_aload_n hx hb dX9_execute_98 rfl (lv_at hl 2 rfl) ?_
      refine va_get (D := G.1) (ci := 11) (v := .ref hih0) (C := RX9) (T := TX9) (N := 8) hx hb hts uws_X9 hown hK hP 3 rfl rfl 3 (by decide) (hts _ u_1100) (fun _ h9 => h9) rfl dX9_execute_99 ?_
      refine w_V (own := RX9) (cs := [[(hih0, .inr (7, [.int hi.1, .int hi.2, .ref hsh]))]]) (rs := [[(pgh0, .inr (9, [.int u_9.2.2.1, .int u_9.2.2.2.1, .int u_9.2.2.2.2.1, .int u_9.2.2.2.2.2, .ref tbh0]))], [(tbh0, .inr (1, [.ref qu_12, .int (0 : Int32), .int u_12.2.2.1, .int u_12.2.2.2]))], [(qu_12, .inl (G.2.1 2, u_12.1, .inl u_12.2.1))], [(qh0, .inr (11, [.ref (va 0), .ref q_snapshot, .int q.1, .ref hih0, .ref pgh0, .ref q_notice, .int q.2.1, .int q.2.2]))], wSt G va u_9.2.1, wHs G hsh hsa u_6]) (As := []) (rest := []) (c_X4_keepDraft l G hih0 hsh H.size hi) ⟨hx, hb, hml, hown, hts⟩ g_X9_332 hdv_X4_keepDraft hK hST hS hP hD hA [5] [0, 1, 2, 3, 4, 6] rfl rfl rfl (k0 := 0) rfl rfl rfl ⟨Nat.le_of_ble_eq_true rfl, Nat.le_of_ble_eq_true rfl⟩ ⟨Nat.le_of_ble_eq_true rfl, Nat.le_of_ble_eq_true rfl⟩ rfl hl.1 rfl (Nat.le_of_ble_eq_true rfl) dX9_execute_102 (fun u_15 H locs huu hP hD hS => ?_)
      have eu_15 := huu
      have hP : va_P G.1 vwCl (fl [[(hih0, .inr (7, [.int u_15.1, .int u_15.2, .ref hsh]))], [(pgh0, .inr (9, [.int u_9.2.2.1, .int u_9.2.2.2.1, .int u_9.2.2.2.2.1, .int u_9.2.2.2.2.2, .ref tbh0]))], [(tbh0, .inr (1, [.ref qu_12, .int (0 : Int32), .int u_12.2.2.1, .int u_12.2.2.2]))], [(qu_12, .inl (G.2.1 2, u_12.1, .inl u_12.2.1))], [(qh0, .inr (11, [.ref (va 0), .ref q_snapshot, .int q.1, .ref hih0, .ref pgh0, .ref q_notice, .int q.2.1, .int q.2.2]))], wSt G va u_9.2.1, wHs G hsh hsa u_6]) H := hP
      have hD : va_D A (fl [[(hih0, .inr (7, [.int u_15.1, .int u_15.2, .ref hsh]))], [(pgh0, .inr (9, [.int u_9.2.2.1, .int u_9.2.2.2.1, .int u_9.2.2.2.2.1, .int u_9.2.2.2.2.2, .ref tbh0]))], [(tbh0, .inr (1, [.ref qu_12, .int (0 : Int32), .int u_12.2.2.1, .int u_12.2.2.2]))], [(qu_12, .inl (G.2.1 2, u_12.1, .inl u_12.2.1))], [(qh0, .inr (11, [.ref (va 0), .ref q_snapshot, .int q.1, .ref hih0, .ref pgh0, .ref q_notice, .int q.2.1, .int q.2.2]))], wSt G va u_9.2.1, wHs G hsh hsa u_6]) := hD
      refine W.eq (g2 := F0 m 105 ls []) rfl ?_
      have hF : f_X9_execute q v hi hs pg tb = ("", u_3.1, q, u_9.2.1, u_15, u_6, u_9.2.2, u_12) := by subst eu_15; exact hF
      refine lv_iload_n hx hb dX9_execute_105 rfl (lv_at hl 1 rfl) ?_
      have hP := fl_sub (cs := [[(qh0, .inr (11, [.ref (va 0), .ref q_snapshot, .int q.1, .ref hih0, .ref pgh0, .ref q_notice, .int q.2.1, .int q.2.2]))], wSt G va u_9.2.1, [(hih0, .inr (7, [.int u_15.1, .int u_15.2, .ref hsh]))], wHs G hsh hsa u_6, [(pgh0, .inr (9, [.int u_9.2.2.1, .int u_9.2.2.2.1, .int u_9.2.2.2.2.1, .int u_9.2.2.2.2.2, .ref tbh0]))], [(tbh0, .inr (1, [.ref qu_12, .int (0 : Int32), .int u_12.2.2.1, .int u_12.2.2.2]))], [(qu_12, .inl (G.2.1 2, u_12.1, .inl u_12.2.1))]]) [4, 5, 0, 6, 1, 2, 3] rfl hP
      have hD := fl_subD (cs := [[(qh0, .inr (11, [.ref (va 0), .ref q_snapshot, .int q.1, .ref hih0, .ref pgh0, .ref q_notice, .int q.2.1, .int q.2.2]))], wSt G va u_9.2.1, [(hih0, .inr (7, [.int u_15.1, .int u_15.2, .ref hsh]))], wHs G hsh hsa u_6, [(pgh0, .inr (9, [.int u_9.2.2.1, .int u_9.2.2.2.1, .int u_9.2.2.2.2.1, .int u_9.2.2.2.2.2, .ref tbh0]))], [(tbh0, .inr (1, [.ref qu_12, .int (0 : Int32), .int u_12.2.2.1, .int u_12.2.2.2]))], [(qu_12, .inl (G.2.1 2, u_12.1, .inl u_12.2.1))]]) [4, 5, 0, 6, 1, 2, 3] rfl rfl hD
      exact x_ret (Nat.le_of_ble_eq_true rfl) (Nat.le_of_ble_eq_true rfl) (w_ret (u := (qu_12, ("", u_3.1, q, u_9.2.1, u_15, u_6, u_9.2.2, u_12))) hx hb hr hlk rfl hS rfl ⟨hF.symm, ⟨congrArg Prod.fst hF, trivial⟩⟩ hP hD (Nat.le_refl _) (Nat.le_refl _) dX9_execute_106)
    · have hF := hF.trans (if_neg c_13)
      refine lv_aload_n hx hb dX9_execute_71 rfl (lv_at hl 2 rfl) ?_
      refine va_get (D := G.1) (ci := 11) (v := .ref hih0) (C := RX9) (T := TX9) (N := 8) hx hb hts uws_X9 hown hK hP 3 rfl rfl 3 (by decide) (hts _ u_1100) (fun _ h9 => h9) rfl dX9_execute_72 ?_
      refine lv_aload_n hx hb dX9_execute_75 rfl (lv_at hl 2 rfl) ?_
      refine va_get (D := G.1) (ci := 11) (v := .ref (va 0)) (C := RX9) (T := TX9) (N := 8) hx hb hts uws_X9 hown hK hP 3 rfl rfl 0 (by decide) (hts _ u_1097) (fun _ h9 => h9) rfl dX9_execute_76 ?_
      refine w_V (own := RX9) (cs := [[(hih0, .inr (7, [.int hi.1, .int hi.2, .ref hsh]))], wHs G hsh hsa u_6, wSt G va u_9.2.1]) (rs := [[(pgh0, .inr (9, [.int u_9.2.2.1, .int u_9.2.2.2.1, .int u_9.2.2.2.2.1, .int u_9.2.2.2.2.2, .ref tbh0]))], [(tbh0, .inr (1, [.ref qu_12, .int (0 : Int32), .int u_12.2.2.1, .int u_12.2.2.2]))], [(qu_12, .inl (G.2.1 2, u_12.1, .inl u_12.2.1))], [(qh0, .inr (11, [.ref (va 0), .ref q_snapshot, .int q.1, .ref hih0, .ref pgh0, .ref q_notice, .int q.2.1, .int q.2.2]))]]) (As := [.ref (va 0)]) (rest := []) (c_X4_dropDraftS l G hih0 hsh hsa va H.size hi u_6 u_9.2.1 hyp_nx) ⟨hx, hb, hml, hown, hts⟩ g_X9_327 hdv_X4_dropDraft hK hST hS hP hD hA [5, 6, 4] [0, 1, 2, 3] rfl rfl rfl (k0 := 0) rfl rfl rfl ⟨Nat.le_of_ble_eq_true rfl, Nat.le_of_ble_eq_true rfl⟩ ⟨Nat.le_of_ble_eq_true rfl, Nat.le_of_ble_eq_true rfl⟩ rfl hl.1 rfl (Nat.le_of_ble_eq_true rfl) dX9_execute_79 (fun u_17 H locs huu hP hD hS => ?_)
      have eu_17 := huu
      have hP : va_P G.1 vwCl (fl [[(hih0, .inr (7, [.int hi.1, .int hi.2, .ref hsh]))], wHs G hsh hsa u_6, wSt G va u_17, [(pgh0, .inr (9, [.int u_9.2.2.1, .int u_9.2.2.2.1, .int u_9.2.2.2.2.1, .int u_9.2.2.2.2.2, .ref tbh0]))], [(tbh0, .inr (1, [.ref qu_12, .int (0 : Int32), .int u_12.2.2.1, .int u_12.2.2.2]))], [(qu_12, .inl (G.2.1 2, u_12.1, .inl u_12.2.1))], [(qh0, .inr (11, [.ref (va 0), .ref q_snapshot, .int q.1, .ref hih0, .ref pgh0, .ref q_notice, .int q.2.1, .int q.2.2]))]]) H := hP
      have hD : va_D A (fl [[(hih0, .inr (7, [.int hi.1, .int hi.2, .ref hsh]))], wHs G hsh hsa u_6, wSt G va u_17, [(pgh0, .inr (9, [.int u_9.2.2.1, .int u_9.2.2.2.1, .int u_9.2.2.2.2.1, .int u_9.2.2.2.2.2, .ref tbh0]))], [(tbh0, .inr (1, [.ref qu_12, .int (0 : Int32), .int u_12.2.2.1, .int u_12.2.2.2]))], [(qu_12, .inl (G.2.1 2, u_12.1, .inl u_12.2.1))], [(qh0, .inr (11, [.ref (va 0), .ref q_snapshot, .int q.1, .ref hih0, .ref pgh0, .ref q_notice, .int q.2.1, .int q.2.2]))]]) := hD
      refine W.eq (g2 := F0 m 82 ls []) rfl ?_
      have hF : f_X9_execute q v hi hs pg tb = ("java/lang/IllegalStateException", 0, (q.1, q.2.1, u_9.1), u_17, hi, u_6, u_9.2.2, u_12) := by subst eu_17; exact hF
      refine lv_aload_n hx hb dX9_execute_82 rfl (lv_at hl 2 rfl) ?_
      refine lv_iload_n hx hb dX9_execute_83 rfl (lv_at hl 0 rfl) ?_
      refine va_put (D := G.1) (ci := 11) (v := .int u_9.1) (ty := .int) (C := RX9) (T := TX9) (N := 8) hx hb hts uws_X9 tyX9 tyX9_ok nmX9 hown hK hP hD hS 205 rfl rfl 7 (by decide) (hts _ u_1104) (fun _ h9 => h9) rfl (by decide +kernel) rfl rfl (Nat.le_of_ble_eq_true rfl) dX9_execute_84 (fun H locs hP hD hS => ?_)
      have hP : va_P G.1 vwCl (fl [[(hih0, .inr (7, [.int hi.1, .int hi.2, .ref hsh]))], wHs G hsh hsa u_6, wSt G va u_17, [(pgh0, .inr (9, [.int u_9.2.2.1, .int u_9.2.2.2.1, .int u_9.2.2.2.2.1, .int u_9.2.2.2.2.2, .ref tbh0]))], [(tbh0, .inr (1, [.ref qu_12, .int (0 : Int32), .int u_12.2.2.1, .int u_12.2.2.2]))], [(qu_12, .inl (G.2.1 2, u_12.1, .inl u_12.2.1))], [(qh0, .inr (11, [.ref (va 0), .ref q_snapshot, .int q.1, .ref hih0, .ref pgh0, .ref q_notice, .int q.2.1, .int u_9.1]))]]) H := hP
      have hD : va_D A (fl [[(hih0, .inr (7, [.int hi.1, .int hi.2, .ref hsh]))], wHs G hsh hsa u_6, wSt G va u_17, [(pgh0, .inr (9, [.int u_9.2.2.1, .int u_9.2.2.2.1, .int u_9.2.2.2.2.1, .int u_9.2.2.2.2.2, .ref tbh0]))], [(tbh0, .inr (1, [.ref qu_12, .int (0 : Int32), .int u_12.2.2.1, .int u_12.2.2.2]))], [(qu_12, .inl (G.2.1 2, u_12.1, .inl u_12.2.1))], [(qh0, .inr (11, [.ref (va 0), .ref q_snapshot, .int q.1, .ref hih0, .ref pgh0, .ref q_notice, .int q.2.1, .int u_9.1]))]]) := hD
      have hP := fl_sub (cs := [[(qh0, .inr (11, [.ref (va 0), .ref q_snapshot, .int q.1, .ref hih0, .ref pgh0, .ref q_notice, .int q.2.1, .int u_9.1]))], wSt G va u_17, [(hih0, .inr (7, [.int hi.1, .int hi.2, .ref hsh]))], wHs G hsh hsa u_6, [(pgh0, .inr (9, [.int u_9.2.2.1, .int u_9.2.2.2.1, .int u_9.2.2.2.2.1, .int u_9.2.2.2.2.2, .ref tbh0]))], [(tbh0, .inr (1, [.ref qu_12, .int (0 : Int32), .int u_12.2.2.1, .int u_12.2.2.2]))], [(qu_12, .inl (G.2.1 2, u_12.1, .inl u_12.2.1))]]) [6, 2, 0, 1, 3, 4, 5] rfl hP
      have hD := fl_subD (cs := [[(qh0, .inr (11, [.ref (va 0), .ref q_snapshot, .int q.1, .ref hih0, .ref pgh0, .ref q_notice, .int q.2.1, .int u_9.1]))], wSt G va u_17, [(hih0, .inr (7, [.int hi.1, .int hi.2, .ref hsh]))], wHs G hsh hsa u_6, [(pgh0, .inr (9, [.int u_9.2.2.1, .int u_9.2.2.2.1, .int u_9.2.2.2.2.1, .int u_9.2.2.2.2.2, .ref tbh0]))], [(tbh0, .inr (1, [.ref qu_12, .int (0 : Int32), .int u_12.2.2.1, .int u_12.2.2.2]))], [(qu_12, .inl (G.2.1 2, u_12.1, .inl u_12.2.1))]]) [6, 2, 0, 1, 3, 4, 5] rfl rfl hD
      exact xx_throwSW (u := (qu_12, ("java/lang/IllegalStateException", 0, (q.1, q.2.1, u_9.1), u_17, hi, u_6, u_9.2.2, u_12))) (A := A) (own := RX9) (cls := "java/lang/IllegalStateException") (text := "a command failed") (j := 38) hlf ⟨hx, hb, hml, hown, hts⟩ hST hS hlk hxt (by decide +kernel) u_631 u_41 (by decide +kernel) at_X9_162 ot_X9_162_158 hl.1 dX9_execute_87 dX9_execute_90 dX9_execute_91 dX9_execute_94 dX9_execute_97 ⟨Nat.le_of_ble_eq_true rfl, Nat.le_of_ble_eq_true rfl⟩ ⟨Nat.le_of_ble_eq_true rfl, Nat.le_of_ble_eq_true rfl⟩ ⟨hF.symm, rfl, by decide⟩ hP hD (Nat.le_of_ble_eq_true rfl) (Nat.le_of_ble_eq_true rfl)
  · have hF := hF.trans (if_pos c_4)
    have hok := Eq.mp (if_pos c_4) hok
    refine lv_aload_n hx hb dX9_execute_13 rfl (lv_at hl 1 rfl) ?_
    refine lv_aload_n hx hb dX9_execute_14 rfl (lv_at hl 1 rfl) ?_
    refine va_get (D := G.1) (ci := 11) (v := .ref pgh0) (C := RX9) (T := TX9) (N := 8) hx hb hts uws_X9 hown hK hP 3 rfl rfl 4 (by decide) (hts _ u_1101) (fun _ h9 => h9) rfl dX9_execute_15 ?_
    refine va_get (D := G.1) (ci := 9) (v := .int u_3.2.1) (C := RX6) (T := TX6) (N := 5) hx hb hts uws_X6 hown hK hP 0 rfl rfl 0 (by decide) (hts _ u_1076) (fun _ h9 => h9) rfl dX9_execute_18 ?_
    refine va_put (D := G.1) (ci := 11) (v := .int u_3.2.1) (ty := .int) (C := RX9) (T := TX9) (N := 8) hx hb hts uws_X9 tyX9 tyX9_ok nmX9 hown hK hP hD hS 3 rfl rfl 6 (by decide) (hts _ u_1103) (fun _ h9 => h9) rfl (by decide +kernel) rfl rfl (Nat.le_of_ble_eq_true rfl) dX9_execute_21 (fun H locs hP hD hS => ?_)
    have hP : va_P G.1 vwCl (fl [[(pgh0, .inr (9, [.int u_3.2.1, .int u_3.2.2.1, .int u_3.2.2.2.1, .int u_3.2.2.2.2, .ref tbh0]))], [(tbh0, .inr (1, [.ref tbh1, .int (0 : Int32), .int tb.2.2.1, .int tb.2.2.2]))], [(tbh1, .inl (G.2.1 2, tb.1, .inl tb.2.1))], [(qh0, .inr (11, [.ref (va 0), .ref q_snapshot, .int q.1, .ref hih0, .ref pgh0, .ref q_notice, .int u_3.2.1, .int q.2.2]))], wSt G va v, [(hih0, .inr (7, [.int hi.1, .int hi.2, .ref hsh]))], wHs G hsh hsa hs]) H := hP
    have hD : va_D A (fl [[(pgh0, .inr (9, [.int u_3.2.1, .int u_3.2.2.1, .int u_3.2.2.2.1, .int u_3.2.2.2.2, .ref tbh0]))], [(tbh0, .inr (1, [.ref tbh1, .int (0 : Int32), .int tb.2.2.1, .int tb.2.2.2]))], [(tbh1, .inl (G.2.1 2, tb.1, .inl tb.2.1))], [(qh0, .inr (11, [.ref (va 0), .ref q_snapshot, .int q.1, .ref hih0, .ref pgh0, .ref q_notice, .int u_3.2.1, .int q.2.2]))], wSt G va v, [(hih0, .inr (7, [.int hi.1, .int hi.2, .ref hsh]))], wHs G hsh hsa hs]) := hD
    refine lv_aload_n hx hb dX9_execute_24 rfl (lv_at hl 1 rfl) ?_
    refine va_get (D := G.1) (ci := 11) (v := .ref pgh0) (C := RX9) (T := TX9) (N := 8) hx hb hts uws_X9 hown hK hP 3 rfl rfl 4 (by decide) (hts _ u_1101) (fun _ h9 => h9) rfl dX9_execute_25 ?_
    have k_18 := hok.1
    have hok := hok.2
    refine w_V (own := RX9) (cs := [[(pgh0, .inr (9, [.int u_3.2.1, .int u_3.2.2.1, .int u_3.2.2.2.1, .int u_3.2.2.2.2, .ref tbh0]))], [(tbh0, .inr (1, [.ref tbh1, .int (0 : Int32), .int tb.2.2.1, .int tb.2.2.2]))], [(tbh1, .inl (G.2.1 2, tb.1, .inl tb.2.1))]]) (rs := [[(qh0, .inr (11, [.ref (va 0), .ref q_snapshot, .int q.1, .ref hih0, .ref pgh0, .ref q_notice, .int u_3.2.1, .int q.2.2]))], wSt G va v, [(hih0, .inr (7, [.int hi.1, .int hi.2, .ref hsh]))], wHs G hsh hsa hs]) (As := []) (rest := []) (c_X6_clear l G pgh0 tbh0 tbh1 H.size u_3.2 tb k_18) ⟨hx, hb, hml, hown, hts⟩ g_X9_313 hdv_X6_clear hK hST hS hP hD hA [0, 1, 2] [3, 4, 5, 6] rfl rfl rfl (k0 := 0) rfl rfl rfl ⟨Nat.le_of_ble_eq_true rfl, Nat.le_of_ble_eq_true rfl⟩ ⟨Nat.le_of_ble_eq_true rfl, Nat.le_of_ble_eq_true rfl⟩ rfl hl.1 rfl (Nat.le_of_ble_eq_true rfl) dX9_execute_28 (fun u_20 H locs huu hP hD hS => ?_)
    obtain ⟨qu_20, u_20⟩ := u_20
    have eu_20 : u_20 = (f_X6_clear u_3.2 tb) := huu
    have hP : va_P G.1 vwCl (fl [[(pgh0, .inr (9, [.int u_3.2.1, .int u_3.2.2.1, .int u_3.2.2.2.1, .int u_3.2.2.2.2, .ref tbh0]))], [(tbh0, .inr (1, [.ref qu_20, .int (0 : Int32), .int u_20.2.2.1, .int u_20.2.2.2]))], [(qu_20, .inl (G.2.1 2, u_20.1, .inl u_20.2.1))], [(qh0, .inr (11, [.ref (va 0), .ref q_snapshot, .int q.1, .ref hih0, .ref pgh0, .ref q_notice, .int u_3.2.1, .int q.2.2]))], wSt G va v, [(hih0, .inr (7, [.int hi.1, .int hi.2, .ref hsh]))], wHs G hsh hsa hs]) H := hP
    have hD : va_D A (fl [[(pgh0, .inr (9, [.int u_3.2.1, .int u_3.2.2.1, .int u_3.2.2.2.1, .int u_3.2.2.2.2, .ref tbh0]))], [(tbh0, .inr (1, [.ref qu_20, .int (0 : Int32), .int u_20.2.2.1, .int u_20.2.2.2]))], [(qu_20, .inl (G.2.1 2, u_20.1, .inl u_20.2.1))], [(qh0, .inr (11, [.ref (va 0), .ref q_snapshot, .int q.1, .ref hih0, .ref pgh0, .ref q_notice, .int u_3.2.1, .int q.2.2]))], wSt G va v, [(hih0, .inr (7, [.int hi.1, .int hi.2, .ref hsh]))], wHs G hsh hsa hs]) := hD
    refine W.eq (g2 := F0 m 31 ls []) rfl ?_
    have hF : f_X9_execute q v hi hs pg tb = ("java/lang/IllegalArgumentException", 0, (q.1, u_3.2.1, q.2.2), v, hi, hs, u_3.2, u_20) := by subst eu_20; exact hF
    have hP := fl_sub (cs := [[(qh0, .inr (11, [.ref (va 0), .ref q_snapshot, .int q.1, .ref hih0, .ref pgh0, .ref q_notice, .int u_3.2.1, .int q.2.2]))], wSt G va v, [(hih0, .inr (7, [.int hi.1, .int hi.2, .ref hsh]))], wHs G hsh hsa hs, [(pgh0, .inr (9, [.int u_3.2.1, .int u_3.2.2.1, .int u_3.2.2.2.1, .int u_3.2.2.2.2, .ref tbh0]))], [(tbh0, .inr (1, [.ref qu_20, .int (0 : Int32), .int u_20.2.2.1, .int u_20.2.2.2]))], [(qu_20, .inl (G.2.1 2, u_20.1, .inl u_20.2.1))]]) [3, 4, 5, 6, 0, 1, 2] rfl hP
    have hD := fl_subD (cs := [[(qh0, .inr (11, [.ref (va 0), .ref q_snapshot, .int q.1, .ref hih0, .ref pgh0, .ref q_notice, .int u_3.2.1, .int q.2.2]))], wSt G va v, [(hih0, .inr (7, [.int hi.1, .int hi.2, .ref hsh]))], wHs G hsh hsa hs, [(pgh0, .inr (9, [.int u_3.2.1, .int u_3.2.2.1, .int u_3.2.2.2.1, .int u_3.2.2.2.2, .ref tbh0]))], [(tbh0, .inr (1, [.ref qu_20, .int (0 : Int32), .int u_20.2.2.1, .int u_20.2.2.2]))], [(qu_20, .inl (G.2.1 2, u_20.1, .inl u_20.2.1))]]) [3, 4, 5, 6, 0, 1, 2] rfl rfl hD
    exact xx_throwSW (u := (qu_20, ("java/lang/IllegalArgumentException", 0, (q.1, u_3.2.1, q.2.2), v, hi, hs, u_3.2, u_20))) (A := A) (own := RX9) (cls := "java/lang/IllegalArgumentException") (text := "malformed program") (j := 37) hlf ⟨hx, hb, hml, hown, hts⟩ hST hS hlk hxt (by decide +kernel) u_610 u_39 (by decide +kernel) at_X9_320 ot_X9_320_316 hl.1 dX9_execute_31 dX9_execute_34 dX9_execute_35 dX9_execute_38 dX9_execute_41 ⟨Nat.le_of_ble_eq_true rfl, Nat.le_of_ble_eq_true rfl⟩ ⟨Nat.le_of_ble_eq_true rfl, Nat.le_of_ble_eq_true rfl⟩ ⟨hF.symm, rfl, by decide⟩ hP hD (Nat.le_of_ble_eq_true rfl) (Nat.le_of_ble_eq_true rfl)
