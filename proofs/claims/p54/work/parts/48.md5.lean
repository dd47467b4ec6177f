theorem dX9_runCommands_0 : decode cX9_runCommands 0 = .ok (.aload_n 0, 1) := by decide +kernel
theorem dX9_runCommands_1 : decode cX9_runCommands 1 = .ok (.getfield 33, 3) := by decide +kernel
theorem dX9_runCommands_4 : decode cX9_runCommands 4 = .ok (.invokevirtual 391, 3) := by decide +kernel
theorem u_1381 : Cond.methodLink RX9 391 yX6_rewind ∈ UW := uw 1381 (by decide +kernel) rfl
theorem g_X9_391 : GoodIn UW (wsV RX9 391 RX6 yX6_rewind (wsU yX6_rewind cX6_rewind 1 none)) := gV u_1381 u_1311 u_1312 u_28 u_1313
theorem dX9_runCommands_7 : decode cX9_runCommands 7 = .ok (.iconst 0, 1) := by decide +kernel
theorem dX9_runCommands_8 : decode cX9_runCommands 8 = .ok (.istore_n 2, 1) := by decide +kernel
theorem dX9_runCommands_9 : decode cX9_runCommands 9 = .ok (.iload_n 2, 1) := by decide +kernel
theorem dX9_runCommands_10 : decode cX9_runCommands 10 = .ok (.iload_n 1, 1) := by decide +kernel
theorem dX9_runCommands_11 : decode cX9_runCommands 11 = .ok (.if_icmp .ge 85, 3) := by decide +kernel
theorem dX9_runCommands_96 : decode cX9_runCommands 96 = .ok (.iconst (-1), 1) := by decide +kernel
theorem dX9_runCommands_97 : decode cX9_runCommands 97 = .ok (.ireturn, 1) := by decide +kernel
theorem dX9_runCommands_14 : decode cX9_runCommands 14 = .ok (.aload_n 0, 1) := by decide +kernel
theorem dX9_runCommands_15 : decode cX9_runCommands 15 = .ok (.getfield 33, 3) := by decide +kernel
theorem dX9_runCommands_18 : decode cX9_runCommands 18 = .ok (.invokevirtual 394, 3) := by decide +kernel
theorem u_1382 : Cond.methodLink RX9 394 yX6_readCommand ∈ UW := uw 1382 (by decide +kernel) rfl
theorem g_X9_394 : GoodIn UW (wsV RX9 394 RX6 yX6_readCommand (wsU yX6_readCommand cX6_readCommand 1 (some .boolean))) := gV u_1382 u_1315 u_1316 u_28 u_1317
theorem dX9_runCommands_21 : decode cX9_runCommands 21 = .ok (.pop, 1) := by decide +kernel
theorem dX9_runCommands_22 : decode cX9_runCommands 22 = .ok (.aload_n 0, 1) := by decide +kernel
theorem dX9_runCommands_23 : decode cX9_runCommands 23 = .ok (.aload_n 0, 1) := by decide +kernel
theorem dX9_runCommands_24 : decode cX9_runCommands 24 = .ok (.getfield 33, 3) := by decide +kernel
theorem dX9_runCommands_27 : decode cX9_runCommands 27 = .ok (.getfield 398, 3) := by decide +kernel
theorem u_1078 : Cond.fieldLink RX9 398 "MoonlitDoors$Program" "verb" "I" ∈ UW := uw 1078 (by decide +kernel) rfl
theorem dX9_runCommands_30 : decode cX9_runCommands 30 = .ok (.aload_n 0, 1) := by decide +kernel
theorem dX9_runCommands_31 : decode cX9_runCommands 31 = .ok (.getfield 33, 3) := by decide +kernel
theorem dX9_runCommands_34 : decode cX9_runCommands 34 = .ok (.getfield 401, 3) := by decide +kernel
theorem u_1080 : Cond.fieldLink RX9 401 "MoonlitDoors$Program" "first" "I" ∈ UW := uw 1080 (by decide +kernel) rfl
theorem dX9_runCommands_37 : decode cX9_runCommands 37 = .ok (.aload_n 0, 1) := by decide +kernel
theorem dX9_runCommands_38 : decode cX9_runCommands 38 = .ok (.getfield 33, 3) := by decide +kernel
theorem dX9_runCommands_41 : decode cX9_runCommands 41 = .ok (.getfield 404, 3) := by decide +kernel
theorem u_1082 : Cond.fieldLink RX9 404 "MoonlitDoors$Program" "second" "I" ∈ UW := uw 1082 (by decide +kernel) rfl
theorem dX9_runCommands_44 : decode cX9_runCommands 44 = .ok (.invokevirtual 407, 3) := by decide +kernel
theorem u_1383 : Cond.methodLink RX9 407 yX9_faultOfCommand ∈ UW := uw 1383 (by decide +kernel) rfl
theorem u_1385 : Cond.instanceMethod yX9_faultOfCommand ∈ UW := uw 1385 (by decide +kernel) rfl
theorem u_16 : Cond.selects RX9 yX9_faultOfCommand yX9_faultOfCommand ∈ UW := uw 16 (by decide +kernel) rfl
theorem u_1386 : Cond.code yX9_faultOfCommand cX9_faultOfCommand 4 (some (.object "MoonlitDoors$Fault")) ∈ UW := uw 1386 (by decide +kernel) rfl
theorem g_X9_407 : GoodIn UW (wsV RX9 407 RX9 yX9_faultOfCommand (wsU yX9_faultOfCommand cX9_faultOfCommand 4 (some (.object "MoonlitDoors$Fault")))) := gV u_1383 u_1385 u_16 u_21 u_1386
theorem hdv_X9_faultOfCommand : yX9_faultOfCommand.cls = RX9 ∧ yX9_faultOfCommand.cls ≠ "java/lang/invoke/MethodHandle" ∧ yX9_faultOfCommand.cls ≠ "java/lang/invoke/VarHandle" ∧ (parseMethodDescriptor yX9_faultOfCommand.desc).map (fun d => d.parameters.length) = some 3 := by decide +kernel
theorem dX9_runCommands_47 : decode cX9_runCommands 47 = .ok (.getstatic 411, 3) := by decide +kernel
theorem u_1387 : Cond.fieldLink RX9 411 "MoonlitDoors$Fault" "NOTHING" "LMoonlitDoors$Fault;" ∈ UW := uw 1387 (by decide +kernel) rfl
theorem dX9_runCommands_50 : decode cX9_runCommands 50 = .ok (.if_acmp .eq 5, 3) := by decide +kernel
theorem dX9_runCommands_55 : decode cX9_runCommands 55 = .ok (.aload_n 0, 1) := by decide +kernel
theorem dX9_runCommands_56 : decode cX9_runCommands 56 = .ok (.aload_n 0, 1) := by decide +kernel
theorem dX9_runCommands_57 : decode cX9_runCommands 57 = .ok (.getfield 33, 3) := by decide +kernel
theorem dX9_runCommands_60 : decode cX9_runCommands 60 = .ok (.getfield 398, 3) := by decide +kernel
theorem dX9_runCommands_63 : decode cX9_runCommands 63 = .ok (.aload_n 0, 1) := by decide +kernel
theorem dX9_runCommands_64 : decode cX9_runCommands 64 = .ok (.getfield 33, 3) := by decide +kernel
theorem dX9_runCommands_67 : decode cX9_runCommands 67 = .ok (.getfield 401, 3) := by decide +kernel
theorem dX9_runCommands_70 : decode cX9_runCommands 70 = .ok (.aload_n 0, 1) := by decide +kernel
theorem dX9_runCommands_71 : decode cX9_runCommands 71 = .ok (.getfield 33, 3) := by decide +kernel
theorem dX9_runCommands_74 : decode cX9_runCommands 74 = .ok (.getfield 404, 3) := by decide +kernel
theorem dX9_runCommands_77 : decode cX9_runCommands 77 = .ok (.invokevirtual 414, 3) := by decide +kernel
theorem u_1388 : Cond.methodLink RX9 414 yX9_carryOut ∈ UW := uw 1388 (by decide +kernel) rfl
theorem u_1390 : Cond.instanceMethod yX9_carryOut ∈ UW := uw 1390 (by decide +kernel) rfl
theorem u_17 : Cond.selects RX9 yX9_carryOut yX9_carryOut ∈ UW := uw 17 (by decide +kernel) rfl
theorem u_1391 : Cond.code yX9_carryOut cX9_carryOut 4 none ∈ UW := uw 1391 (by decide +kernel) rfl
theorem g_X9_414 : GoodIn UW (wsV RX9 414 RX9 yX9_carryOut (wsU yX9_carryOut cX9_carryOut 4 none)) := gV u_1388 u_1390 u_17 u_21 u_1391
theorem hdv_X9_carryOut : yX9_carryOut.cls = RX9 ∧ yX9_carryOut.cls ≠ "java/lang/invoke/MethodHandle" ∧ yX9_carryOut.cls ≠ "java/lang/invoke/VarHandle" ∧ (parseMethodDescriptor yX9_carryOut.desc).map (fun d => d.parameters.length) = some 3 := by decide +kernel
theorem dX9_runCommands_80 : decode cX9_runCommands 80 = .ok (.aload_n 0, 1) := by decide +kernel
theorem dX9_runCommands_81 : decode cX9_runCommands 81 = .ok (.getfield 33, 3) := by decide +kernel
theorem dX9_runCommands_84 : decode cX9_runCommands 84 = .ok (.bipush 59, 2) := by decide +kernel
theorem dX9_runCommands_86 : decode cX9_runCommands 86 = .ok (.invokevirtual 417, 3) := by decide +kernel
theorem u_1392 : Cond.methodLink RX9 417 yX6_readSign ∈ UW := uw 1392 (by decide +kernel) rfl
theorem g_X9_417 : GoodIn UW (wsV RX9 417 RX6 yX6_readSign (wsU yX6_readSign cX6_readSign 2 (some .boolean))) := gV u_1392 u_1367 u_1368 u_28 u_1369
theorem dX9_runCommands_89 : decode cX9_runCommands 89 = .ok (.pop, 1) := by decide +kernel
theorem dX9_runCommands_90 : decode cX9_runCommands 90 = .ok (.iinc 2 1, 3) := by decide +kernel
theorem dX9_runCommands_93 : decode cX9_runCommands 93 = .ok (.goto (-84), 3) := by decide +kernel
theorem dX9_runCommands_53 : decode cX9_runCommands 53 = .ok (.iload_n 2, 1) := by decide +kernel
theorem dX9_runCommands_54 : decode cX9_runCommands 54 = .ok (.ireturn, 1) := by decide +kernel
set_option maxHeartbeats 40000000 in
set_option maxRecDepth 100000 in
set_option linter.constructorNameAsVariable false in
theorem c_X9_runCommands (l : Launch) (G : GG) (qh0 : Nat) (q_snapshot : Nat) (q_history : Nat) (q_notice : Nat) (va : Nat → Nat) (pgh0 : Nat) (tbh0 : Nat) (tbh1 : Nat) (sz : Nat) (q : McV) (v : StV) (pg : PrV) (tb : SbV) (x : Int32) (hok : ok_X9_runCommands q v pg tb x) : wMet l yX9_runCommands cX9_runCommands 3 (some .int) 10 0 0 G (fl [[(qh0, .inr (11, [.ref (va 0), .ref q_snapshot, .int q.1, .ref q_history, .ref pgh0, .ref q_notice, .int q.2.1, .int q.2.2]))], wSt G va v, [(pgh0, .inr (9, [.int pg.1, .int pg.2.1, .int pg.2.2.1, .int pg.2.2.2, .ref tbh0]))], [(tbh0, .inr (1, [.ref tbh1, .int (0 : Int32), .int tb.2.2.1, .int tb.2.2.2]))], [(tbh1, .inl (G.2.1 2, tb.1, .inl tb.2.1))]]) [.ref qh0, .int x] sz (fun u : Int32 × StV × PrV => some (.int u.1)) (fun u : Int32 × StV × PrV => u = f_X9_runCommands q v pg tb x) (fun u : Int32 × StV × PrV => fl [[(qh0, .inr (11, [.ref (va 0), .ref q_snapshot, .int q.1, .ref q_history, .ref pgh0, .ref q_notice, .int q.2.1, .int q.2.2]))], wSt G va u.2.1, [(pgh0, .inr (9, [.int u.2.2.1, .int u.2.2.2.1, .int u.2.2.2.2.1, .int u.2.2.2.2.2, .ref tbh0]))], [(tbh0, .inr (1, [.ref tbh1, .int (0 : Int32), .int tb.2.2.1, .int tb.2.2.2]))], [(tbh1, .inl (G.2.1 2, tb.1, .inl tb.2.1))]]) := by
  refine w_start (by decide +kernel) (Nat.le_of_ble_eq_true rfl) ?_
  intro p e s m below meth c A hx hb hr hml hts hown hlk hin hP hD hA hK hST ls hl
  have hS : va_S A s.heap s.heap [] := va_S.rf
  have hown : s.vm.findClass RX9 = some m.cls := hown
  have hl : lv_has ls 3 [(0, .ref qh0), (1, .int x)] := hl
  have hF : f_X9_runCommands q v pg tb x = (let u_2 : PrV := (f_X6_rewind pg tb); (lp_X9_runCommands_9 q v pg tb x u_2 (((x).toInt - ((0 : Int32)).toInt).toNat + 1) (0 : Int32) v u_2)) := rfl
  have hok : (∀ u_2 : PrV, u_2 = (f_X6_rewind pg tb) → (okl_lp_X9_runCommands_9 q v pg tb x u_2 (((x).toInt - ((0 : Int32)).toInt).toNat + 1) (0 : Int32) v u_2)) := hok
  refine lv_aload_n hx hb dX9_runCommands_0 rfl (lv_at hl 0 rfl) ?_
  refine va_get (D := G.1) (ci := 11) (v := .ref pgh0) (C := RX9) (T := TX9) (N := 8) hx hb hts uws_X9 hown hK hP 0 rfl rfl 4 (by decide) (hts _ u_1101) (fun _ h9 => h9) rfl dX9_runCommands_1 ?_
  refine w_V (own := RX9) (cs := [[(pgh0, .inr (9, [.int pg.1, .int pg.2.1, .int pg.2.2.1, .int pg.2.2.2, .ref tbh0]))], [(tbh0, .inr (1, [.ref tbh1, .int (0 : Int32), .int tb.2.2.1, .int tb.2.2.2]))], [(tbh1, .inl (G.2.1 2, tb.1, .inl tb.2.1))]]) (rs := [[(qh0, .inr (11, [.ref (va 0), .ref q_snapshot, .int q.1, .ref q_history, .ref pgh0, .ref q_notice, .int q.2.1, .int q.2.2]))], wSt G va v]) (As := []) (rest := []) (c_X6_rewind l G pgh0 tbh0 tbh1 s.heap.size pg tb) ⟨hx, hb, hml, hown, hts⟩ g_X9_391 hdv_X6_rewind hK hST hS hP hD hA [2, 3, 4] [0, 1] rfl rfl rfl (k0 := 0) rfl rfl rfl ⟨Nat.le_of_ble_eq_true rfl, Nat.le_of_ble_eq_true rfl⟩ ⟨Nat.le_of_ble_eq_true rfl, Nat.le_of_ble_eq_true rfl⟩ rfl hl.1 rfl (Nat.le_of_ble_eq_true rfl) dX9_runCommands_4 (fun u_2 H locs huu hP hD hS => ?_)
  have eu_2 := huu
  have hP : va_P G.1 vwCl (fl [[(pgh0, .inr (9, [.int u_2.1, .int u_2.2.1, .int u_2.2.2.1, .int u_2.2.2.2, .ref tbh0]))], [(tbh0, .inr (1, [.ref tbh1, .int (0 : Int32), .int tb.2.2.1, .int tb.2.2.2]))], [(tbh1, .inl (G.2.1 2, tb.1, .inl tb.2.1))], [(qh0, .inr (11, [.ref (va 0), .ref q_snapshot, .int q.1, .ref q_history, .ref pgh0, .ref q_notice, .int q.2.1, .int q.2.2]))], wSt G va v]) H := hP
  have hD : va_D A (fl [[(pgh0, .inr (9, [.int u_2.1, .int u_2.2.1, .int u_2.2.2.1, .int u_2.2.2.2, .ref tbh0]))], [(tbh0, .inr (1, [.ref tbh1, .int (0 : Int32), .int tb.2.2.1, .int tb.2.2.2]))], [(tbh1, .inl (G.2.1 2, tb.1, .inl tb.2.1))], [(qh0, .inr (11, [.ref (va 0), .ref q_snapshot, .int q.1, .ref q_history, .ref pgh0, .ref q_notice, .int q.2.1, .int q.2.2]))], wSt G va v]) := hD
  refine W.eq (g2 := F0 m 7 ls []) rfl ?_
  have hF : f_X9_runCommands q v pg tb x = (lp_X9_runCommands_9 q v pg tb x u_2 (((x).toInt - ((0 : Int32)).toInt).toNat + 1) (0 : Int32) v u_2) := by subst eu_2; exact hF
  have hok : (okl_lp_X9_runCommands_9 q v pg tb x u_2 (((x).toInt - ((0 : Int32)).toInt).toNat + 1) (0 : Int32) v u_2) := hok _ eu_2
  refine lv_iconst (v := (0 : Int32)) hx hb dX9_runCommands_7 (by decide) ?_
  refine lv_istore_n (lv' := [(2, .int (0 : Int32)), (0, .ref qh0), (1, .int x)]) hx hb dX9_runCommands_8 rfl hl (by decide) rfl (fun ls hl => ?_)
  have L9 : ∀ (n : Nat) (x2 : Int32) (vL : StV) (pgL : PrV) (H : Heap) (locs : List Loc) (ls : Array Slot), lv_has ls 3 [(2, .int x2), (0, .ref qh0), (1, .int x)] → va_P G.1 vwCl (fl [[(pgh0, .inr (9, [.int pgL.1, .int pgL.2.1, .int pgL.2.2.1, .int pgL.2.2.2, .ref tbh0]))], [(tbh0, .inr (1, [.ref tbh1, .int (0 : Int32), .int tb.2.2.1, .int tb.2.2.2]))], [(tbh1, .inl (G.2.1 2, tb.1, .inl tb.2.1))], [(qh0, .inr (11, [.ref (va 0), .ref q_snapshot, .int q.1, .ref q_history, .ref pgh0, .ref q_notice, .int q.2.1, .int q.2.2]))], wSt G va vL]) H → va_D A (fl [[(pgh0, .inr (9, [.int pgL.1, .int pgL.2.1, .int pgL.2.2.1, .int pgL.2.2.2, .ref tbh0]))], [(tbh0, .inr (1, [.ref tbh1, .int (0 : Int32), .int tb.2.2.1, .int tb.2.2.2]))], [(tbh1, .inl (G.2.1 2, tb.1, .inl tb.2.1))], [(qh0, .inr (11, [.ref (va 0), .ref q_snapshot, .int q.1, .ref q_history, .ref pgh0, .ref q_notice, .int q.2.1, .int q.2.2]))], wSt G va vL]) → va_S A s.heap H locs → (upI x2 x n) → f_X9_runCommands q v pg tb x = lp_X9_runCommands_9 q v pg tb x u_2 n x2 vL pgL → okl_lp_X9_runCommands_9 q v pg tb x u_2 n x2 vL pgL → W p l e (rmd 10 0 0) s m ([.ref qh0, .int x] : List Value).toArray below meth c H locs 0 0 (MQ below (wQ (fun u : Int32 × StV × PrV => some (.int u.1)) (fun u : Int32 × StV × PrV => u = f_X9_runCommands q v pg tb x) (fun u : Int32 × StV × PrV => fl [[(qh0, .inr (11, [.ref (va 0), .ref q_snapshot, .int q.1, .ref q_history, .ref pgh0, .ref q_notice, .int q.2.1, .int q.2.2]))], wSt G va u.2.1, [(pgh0, .inr (9, [.int u.2.2.1, .int u.2.2.2.1, .int u.2.2.2.2.1, .int u.2.2.2.2.2, .ref tbh0]))], [(tbh0, .inr (1, [.ref tbh1, .int (0 : Int32), .int tb.2.2.1, .int tb.2.2.2]))], [(tbh1, .inl (G.2.1 2, tb.1, .inl tb.2.1))]]) G.1 A) ([.ref qh0, .int x] : List Value).toArray s 0 0 A) (F0 m 9 ls []) := by
    intro n
    induction n with
    | zero => intro x2 vL pgL H locs ls hl _ _ _ hu; exact absurd hu (upI_0)
    | succ n ih =>
      intro x2 vL pgL H locs ls hl hP hD hS hu hF hok
      have hF : f_X9_runCommands q v pg tb x = (if x ≤ x2 then ((-1 : Int32), vL, pgL) else (let u_6 : Int32 × PrV := (f_X6_readCommand pgL tb); (if (f_X9_faultOfCommand q vL u_6.2.2.1 u_6.2.2.2.1 u_6.2.2.2.2) = 0 then (let u_10 : StV := (f_X9_carryOut q vL u_6.2.2.1 u_6.2.2.2.1 u_6.2.2.2.2); (let u_13 : Int32 × PrV := (f_X6_readSign u_6.2 tb (59 : Int32)); (lp_X9_runCommands_9 q v pg tb x u_2 n (x2 + 1) u_10 u_13.2))) else (x2, vL, u_6.2)))) := hF
      have hok : (if x ≤ x2 then True else (ok_X6_readCommand pgL tb ∧ (∀ u_6 : Int32 × PrV, u_6 = (f_X6_readCommand pgL tb) → (if (f_X9_faultOfCommand q vL u_6.2.2.1 u_6.2.2.2.1 u_6.2.2.2.2) = 0 then (∀ u_10 : StV, u_10 = (f_X9_carryOut q vL u_6.2.2.1 u_6.2.2.2.1 u_6.2.2.2.2) → (ok_X6_readSign u_6.2 tb (59 : Int32) ∧ (∀ u_13 : Int32 × PrV, u_13 = (f_X6_readSign u_6.2 tb (59 : Int32)) → (okl_lp_X9_runCommands_9 q v pg tb x u_2 n (x2 + 1) u_10 u_13.2)))) else True)))) := hok
      refine lv_iload_n hx hb dX9_runCommands_9 rfl (lv_at hl 0 rfl) ?_
      refine lv_iload_n hx hb dX9_runCommands_10 rfl (lv_at hl 2 rfl) ?_
      refine lv_icmp_ge (tgt := 96) hx hb dX9_runCommands_11 (by decide) (fun c_3 => ?_) (fun c_3 => ?_)
      · have hF := hF.trans (if_pos c_3)
        have hok := Eq.mp (if_pos c_3) hok
        refine lv_iconst (v := (-1 : Int32)) hx hb dX9_runCommands_96 (by decide) ?_
        have hP := fl_sub (cs := [[(qh0, .inr (11, [.ref (va 0), .ref q_snapshot, .int q.1, .ref q_history, .ref pgh0, .ref q_notice, .int q.2.1, .int q.2.2]))], wSt G va vL, [(pgh0, .inr (9, [.int pgL.1, .int pgL.2.1, .int pgL.2.2.1, .int pgL.2.2.2, .ref tbh0]))], [(tbh0, .inr (1, [.ref tbh1, .int (0 : Int32), .int tb.2.2.1, .int tb.2.2.2]))], [(tbh1, .inl (G.2.1 2, tb.1, .inl tb.2.1))]]) [3, 4, 0, 1, 2] rfl hP
        have hD := fl_subD (cs := [[(qh0, .inr (11, [.ref (va 0), .ref q_snapshot, .int q.1, .ref q_history, .ref pgh0, .ref q_notice, .int q.2.1, .int q.2.2]))], wSt G va vL, [(pgh0, .inr (9, [.int pgL.1, .int pgL.2.1, .int pgL.2.2.1, .int pgL.2.2.2, .ref tbh0]))], [(tbh0, .inr (1, [.ref tbh1, .int (0 : Int32), .int tb.2.2.1, .int tb.2.2.2]))], [(tbh1, .inl (G.2.1 2, tb.1, .inl tb.2.1))]]) [3, 4, 0, 1, 2] rfl rfl hD
        exact w_ret (u := ((-1 : Int32), vL, pgL)) hx hb hr hlk rfl hS rfl hF.symm hP hD (Nat.le_of_ble_eq_true rfl) (Nat.le_of_ble_eq_true rfl) dX9_runCommands_97
      · have hF := hF.trans (if_neg c_3)
        have hok := Eq.mp (if_neg c_3) hok
        refine lv_aload_n hx hb dX9_runCommands_14 rfl (lv_at hl 1 rfl) ?_
        refine va_get (D := G.1) (ci := 11) (v := .ref pgh0) (C := RX9) (T := TX9) (N := 8) hx hb hts uws_X9 hown hK hP 3 rfl rfl 4 (by decide) (hts _ u_1101) (fun _ h9 => h9) rfl dX9_runCommands_15 ?_
        have k_4 := hok.1
        have hok := hok.2
        refine w_V (own := RX9) (cs := [[(pgh0, .inr (9, [.int pgL.1, .int pgL.2.1, .int pgL.2.2.1, .int pgL.2.2.2, .ref tbh0]))], [(tbh0, .inr (1, [.ref tbh1, .int (0 : Int32), .int tb.2.2.1, .int tb.2.2.2]))], [(tbh1, .inl (G.2.1 2, tb.1, .inl tb.2.1))]]) (rs := [[(qh0, .inr (11, [.ref (va 0), .ref q_snapshot, .int q.1, .ref q_history, .ref pgh0, .ref q_notice, .int q.2.1, .int q.2.2]))], wSt G va vL]) (As := []) (rest := []) (c_X6_readCommand l G pgh0 tbh0 tbh1 H.size pgL tb k_4) ⟨hx, hb, hml, hown, hts⟩ g_X9_394 hdv_X6_readCommand hK hST hS hP hD hA [0, 1, 2] [3, 4] rfl rfl rfl (k0 := 0) rfl rfl rfl ⟨Nat.le_of_ble_eq_true rfl, Nat.le_of_ble_eq_true rfl⟩ ⟨Nat.le_of_ble_eq_true rfl, Nat.le_of_ble_eq_true rfl⟩ rfl hl.1 rfl (Nat.le_of_ble_eq_true rfl) dX9_runCommands_18 (fun u_6 H locs huu hP hD hS => ?_)
        obtain ⟨huu, b_5⟩ := huu
        rw [← huu] at b_5
        have eu_6 := huu
        have hP : va_P G.1 vwCl (fl [[(pgh0, .inr (9, [.int u_6.2.1, .int u_6.2.2.1, .int u_6.2.2.2.1, .int u_6.2.2.2.2, .ref tbh0]))], [(tbh0, .inr (1, [.ref tbh1, .int (0 : Int32), .int tb.2.2.1, .int tb.2.2.2]))], [(tbh1, .inl (G.2.1 2, tb.1, .inl tb.2.1))], [(qh0, .inr (11, [.ref (va 0), .ref q_snapshot, .int q.1, .ref q_history, .ref pgh0, .ref q_notice, .int q.2.1, .int q.2.2]))], wSt G va vL]) H := hP
        have hD : va_D A (fl [[(pgh0, .inr (9, [.int u_6.2.1, .int u_6.2.2.1, .int u_6.2.2.2.1, .int u_6.2.2.2.2, .ref tbh0]))], [(tbh0, .inr (1, [.ref tbh1, .int (0 : Int32), .int tb.2.2.1, .int tb.2.2.2]))], [(tbh1, .inl (G.2.1 2, tb.1, .inl tb.2.1))], [(qh0, .inr (11, [.ref (va 0), .ref q_snapshot, .int q.1, .ref q_history, .ref pgh0, .ref q_notice, .int q.2.1, .int q.2.2]))], wSt G va vL]) := hD
        refine W.eq (g2 := F0 m 21 ls [.int u_6.1]) rfl ?_
        have hF : f_X9_runCommands q v pg tb x = (if (f_X9_faultOfCommand q vL u_6.2.2.1 u_6.2.2.2.1 u_6.2.2.2.2) = 0 then (let u_10 : StV := (f_X9_carryOut q vL u_6.2.2.1 u_6.2.2.2.1 u_6.2.2.2.2); (let u_13 : Int32 × PrV := (f_X6_readSign u_6.2 tb (59 : Int32)); (lp_X9_runCommands_9 q v pg tb x u_2 n (x2 + 1) u_10 u_13.2))) else (x2, vL, u_6.2)) := by subst eu_6; exact hF
        have hok : (if (f_X9_faultOfCommand q vL u_6.2.2.1 u_6.2.2.2.1 u_6.2.2.2.2) = 0 then (∀ u_10 : StV, u_10 = (f_X9_carryOut q vL u_6.2.2.1 u_6.2.2.2.1 u_6.2.2.2.2) → (ok_X6_readSign u_6.2 tb (59 : Int32) ∧ (∀ u_13 : Int32 × PrV, u_13 = (f_X6_readSign u_6.2 tb (59 : Int32)) → (okl_lp_X9_runCommands_9 q v pg tb x u_2 n (x2 + 1) u_10 u_13.2)))) else True) := hok _ eu_6
        refine lv_pop hx hb dX9_runCommands_21 rfl ?_
        refine lv_aload_n hx hb dX9_runCommands_22 rfl (lv_at hl 1 rfl) ?_
        refine lv_aload_n hx hb dX9_runCommands_23 rfl (lv_at hl 1 rfl) ?_
        refine va_get (D := G.1) (ci := 11) (v := .ref pgh0) (C := RX9) (T := TX9) (N := 8) hx hb hts uws_X9 hown hK hP 3 rfl rfl 4 (by decide) (hts _ u_1101) (fun _ h9 => h9) rfl dX9_runCommands_24 ?_
        refine va_get (D := G.1) (ci := 9) (v := .int u_6.2.2.1) (C := RX6) (T := TX6) (N := 5) hx hb hts uws_X6 hown hK hP 0 rfl rfl 1 (by decide) (hts _ u_1078) (fun _ h9 => h9) rfl dX9_runCommands_27 ?_
        refine lv_aload_n hx hb dX9_runCommands_30 rfl (lv_at hl 1 rfl) ?_
        refine va_get (D := G.1) (ci := 11) (v := .ref pgh0) (C := RX9) (T := TX9) (N := 8) hx hb hts uws_X9 hown hK hP 3 rfl rfl 4 (by decide) (hts _ u_1101) (fun _ h9 => h9) rfl dX9_runCommands_31 ?_
        refine va_get (D := G.1) (ci := 9) (v := .int u_6.2.2.2.1) (C := RX6) (T := TX6) (N := 5) hx hb hts uws_X6 hown hK hP 0 rfl rfl 2 (by decide) (hts _ u_1080) (fun _ h9 => h9) rfl dX9_runCommands_34 ?_
        refine lv_aload_n hx hb dX9_runCommands_37 rfl (lv_at hl 1 rfl) ?_
        refine va_get (D := G.1) (ci := 11) (v := .ref pgh0) (C := RX9) (T := TX9) (N := 8) hx hb hts uws_X9 hown hK hP 3 rfl rfl 4 (by decide) (hts _ u_1101) (fun _ h9 => h9) rfl dX9_runCommands_38 ?_
        refine va_get (D := G.1) (ci := 9) (v := .int u_6.2.2.2.2) (C := RX6) (T := TX6) (N := 5) hx hb hts uws_X6 hown hK hP 0 rfl rfl 3 (by decide) (hts _ u_1082) (fun _ h9 => h9) rfl dX9_runCommands_41 ?_
        refine r_V (own := RX9) (v := (some (.ref (G.2.2.1 (f_X9_faultOfCommand q vL u_6.2.2.1 u_6.2.2.2.1 u_6.2.2.2.2))))) (st1 := [.ref (G.2.2.1 (f_X9_faultOfCommand q vL u_6.2.2.1 u_6.2.2.2.1 u_6.2.2.2.2))]) (As := [.int u_6.2.2.1, .int u_6.2.2.2.1, .int u_6.2.2.2.2]) (rest := []) (c_X9_faultOfCommandS l G qh0 q_snapshot q_history pgh0 q_notice va q vL u_6.2.2.1 u_6.2.2.2.1 u_6.2.2.2.2) ⟨hx, hb, hml, hown, hts⟩ g_X9_407 hdv_X9_faultOfCommand hK hST hS hP [3, 4, 5, 6, 7, 8, 9, 10, 11, 12, 13, 14, 15, 16, 17, 18, 19, 20, 21, 22, 23] rfl (k0 := 0) rfl rfl rfl ⟨Nat.le_of_ble_eq_true rfl, Nat.le_of_ble_eq_true rfl⟩ ⟨Nat.le_of_ble_eq_true rfl, Nat.le_of_ble_eq_true rfl⟩ rfl hl.1 rfl (Nat.le_of_ble_eq_true rfl) dX9_runCommands_44 rfl (fun b_7 => ?_)
        refine va_gets (C := RX3) (n := "NOTHING") (d := "LMoonlitDoors$Fault;") hx hb (hST.1 0 (by decide)) hS hown (hts _ u_1387) (fun _ h9 => h9) dX9_runCommands_47 ?_
        refine lv_acmp_eq (rx := some (G.2.2.1 (f_X9_faultOfCommand q vL u_6.2.2.1 u_6.2.2.2.1 u_6.2.2.2.2))) (ry := some (G.2.2.1 0)) (tgt := 55) hx hb dX9_runCommands_50 (by decide) (fun c_8 => ?_) (fun c_8 => ?_)
        · have c_8 : (f_X9_faultOfCommand q vL u_6.2.2.1 u_6.2.2.2.1 u_6.2.2.2.2) = 0 := hST.2.1 _ _ b_7 (by decide) (Option.some.inj c_8)
          have hF := hF.trans (if_pos c_8)
          have hok := Eq.mp (if_pos c_8) hok
          refine lv_aload_n hx hb dX9_runCommands_55 rfl (lv_at hl 1 rfl) ?_
          refine lv_aload_n hx hb dX9_runCommands_56 rfl (lv_at hl 1 rfl) ?_
          refine va_get (D := G.1) (ci := 11) (v := .ref pgh0) (C := RX9) (T := TX9) (N := 8) hx hb hts uws_X9 hown hK hP 3 rfl rfl 4 (by decide) (hts _ u_1101) (fun _ h9 => h9) rfl dX9_runCommands_57 ?_
          refine va_get (D := G.1) (ci := 9) (v := .int u_6.2.2.1) (C := RX6) (T := TX6) (N := 5) hx hb hts uws_X6 hown hK hP 0 rfl rfl 1 (by decide) (hts _ u_1078) (fun _ h9 => h9) rfl dX9_runCommands_60 ?_
          refine lv_aload_n hx hb dX9_runCommands_63 rfl (lv_at hl 1 rfl) ?_
          refine va_get (D := G.1) (ci := 11) (v := .ref pgh0) (C := RX9) (T := TX9) (N := 8) hx hb hts uws_X9 hown hK hP 3 rfl rfl 4 (by decide) (hts _ u_1101) (fun _ h9 => h9) rfl dX9_runCommands_64 ?_
          refine va_get (D := G.1) (ci := 9) (v := .int u_6.2.2.2.1) (C := RX6) (T := TX6) (N := 5) hx hb hts uws_X6 hown hK hP 0 rfl rfl 2 (by decide) (hts _ u_1080) (fun _ h9 => h9) rfl dX9_runCommands_67 ?_
          refine lv_aload_n hx hb dX9_runCommands_70 rfl (lv_at hl 1 rfl) ?_
          refine va_get (D := G.1) (ci := 11) (v := .ref pgh0) (C := RX9) (T := TX9) (N := 8) hx hb hts uws_X9 hown hK hP 3 rfl rfl 4 (by decide) (hts _ u_1101) (fun _ h9 => h9) rfl dX9_runCommands_71 ?_
          refine va_get (D := G.1) (ci := 9) (v := .int u_6.2.2.2.2) (C := RX6) (T := TX6) (N := 5) hx hb hts uws_X6 hown hK hP 0 rfl rfl 3 (by decide) (hts _ u_1082) (fun _ h9 => h9) rfl dX9_runCommands_74 ?_
          refine w_V (own := RX9) (cs := [[(qh0, .inr (11, [.ref (va 0), .ref q_snapshot, .int q.1, .ref q_history, .ref pgh0, .ref q_notice, .int q.2.1, .int q.2.2]))], wSt G va vL]) (rs := [[(pgh0, .inr (9, [.int u_6.2.1, .int u_6.2.2.1, .int u_6.2.2.2.1, .int u_6.2.2.2.2, .ref tbh0]))], [(tbh0, .inr (1, [.ref tbh1, .int (0 : Int32), .int tb.2.2.1, .int tb.2.2.2]))], [(tbh1, .inl (G.2.1 2, tb.1, .inl tb.2.1))]]) (As := [.int u_6.2.2.1, .int u_6.2.2.2.1, .int u_6.2.2.2.2]) (rest := []) (c_X9_carryOutS l G qh0 q_snapshot q_history pgh0 q_notice va H.size q vL u_6.2.2.1 u_6.2.2.2.1 u_6.2.2.2.2) ⟨hx, hb, hml, hown, hts⟩ g_X9_414 hdv_X9_carryOut hK hST hS hP hD hA [3, 4] [0, 1, 2] rfl rfl rfl (k0 := 0) rfl rfl rfl ⟨Nat.le_of_ble_eq_true rfl, Nat.le_of_ble_eq_true rfl⟩ ⟨Nat.le_of_ble_eq_true rfl, Nat.le_of_ble_eq_true rfl⟩ rfl hl.1 rfl (Nat.le_of_ble_eq_true rfl) dX9_runCommands_77 (fun u_10 H locs huu hP hD hS => ?_)
          have eu_10 := huu
          have hP : va_P G.1 vwCl (fl [[(qh0, .inr (11, [.ref (va 0), .ref q_snapshot, .int q.1, .ref q_history, .ref pgh0, .ref q_notice, .int q.2.1, .int q.2.2]))], wSt G va u_10, [(pgh0, .inr (9, [.int u_6.2.1, .int u_6.2.2.1, .int u_6.2.2.2.1, .int u_6.2.2.2.2, .ref tbh0]))], [(tbh0, .inr (1, [.ref tbh1, .int (0 : Int32), .int tb.2.2.1, .int tb.2.2.2]))], [(tbh1, .inl (G.2.1 2, tb.1, .inl tb.2.1))]]) H := hP
          have hD : va_D A (fl [[(qh0, .inr (11, [.ref (va 0), .ref q_snapshot, .int q.1, .ref q_history, .ref pgh0, .ref q_notice, .int q.2.1, .int q.2.2]))], wSt G va u_10, [(pgh0, .inr (9, [.int u_6.2.1, .int u_6.2.2.1, .int u_6.2.2.2.1, .int u_6.2.2.2.2, .ref tbh0]))], [(tbh0, .inr (1, [.ref tbh1, .int (0 : Int32), .int tb.2.2.1, .int tb.2.2.2]))], [(tbh1, .inl (G.2.1 2, tb.1, .inl tb.2.1))]]) := hD
          refine W.eq (g2 := F0 m 80 ls []) rfl ?_
          have hF : f_X9_runCommands q v pg tb x = (let u_13 : Int32 × PrV := (f_X6_readSign u_6.2 tb (59 : Int32)); (lp_X9_runCommands_9 q v pg tb x u_2 n (x2 + 1) u_10 u_13.2)) := by subst eu_10; exact hF
          have hok : (ok_X6_readSign u_6.2 tb (59 : Int32) ∧ (∀ u_13 : Int32 × PrV, u_13 = (f_X6_readSign u_6.2 tb (59 : Int32)) → (okl_lp_X9_runCommands_9 q v pg tb x u_2 n (x2 + 1) u_10 u_13.2))) := hok _ eu_10
          refine lv_aload_n hx hb dX9_runCommands_80 rfl (lv_at hl 1 rfl) ?_
          refine va_get (D := G.1) (ci := 11) (v := .ref pgh0) (C := RX9) (T := TX9) (N := 8) hx hb hts uws_X9 hown hK hP 0 rfl rfl 4 (by decide) (hts _ u_1101) (fun _ h9 => h9) rfl dX9_runCommands_81 ?_
          refine lv_bipush (v := (59 : Int32)) hx hb dX9_runCommands_84 (by decide) ?_
          have k_11 := hok.1
          have hok := hok.2
          refine w_V (own := RX9) (cs := [[(pgh0, .inr (9, [.int u_6.2.1, .int u_6.2.2.1, .int u_6.2.2.2.1, .int u_6.2.2.2.2, .ref tbh0]))], [(tbh0, .inr (1, [.ref tbh1, .int (0 : Int32), .int tb.2.2.1, .int tb.2.2.2]))], [(tbh1, .inl (G.2.1 2, tb.1, .inl tb.2.1))]]) (rs := [[(qh0, .inr (11, [.ref (va 0), .ref q_snapshot, .int q.1, .ref q_history, .ref pgh0, .ref q_notice, .int q.2.1, .int q.2.2]))], wSt G va u_10]) (As := [.int (59 : Int32)]) (rest := []) (c_X6_readSign l G pgh0 tbh0 tbh1 H.size u_6.2 tb (59 : Int32) k_11) ⟨hx, hb, hml, hown, hts⟩ g_X9_417 hdv_X6_readSign hK hST hS hP hD hA [2, 3, 4] [0, 1] rfl rfl rfl (k0 := 0) rfl rfl rfl ⟨Nat.le_of_ble_eq_true rfl, Nat.le_of_ble_eq_true rfl⟩ ⟨Nat.le_of_ble_eq_true rfl, Nat.le_of_ble_eq_true rfl⟩ rfl hl.1 rfl (Nat.le_of_ble_eq_true rfl) dX9_runCommands_86 (fun u_13 H locs huu hP hD hS => ?_)
          obtain ⟨huu, b_12⟩ := huu
          rw [← huu] at b_12
          have eu_13 := huu
          have hP : va_P G.1 vwCl (fl [[(pgh0, .inr (9, [.int u_13.2.1, .int u_13.2.2.1, .int u_13.2.2.2.1, .int u_13.2.2.2.2, .ref tbh0]))], [(tbh0, .inr (1, [.ref tbh1, .int (0 : Int32), .int tb.2.2.1, .int tb.2.2.2]))], [(tbh1, .inl (G.2.1 2, tb.1, .inl tb.2.1))], [(qh0, .inr (11, [.ref (va 0), .ref q_snapshot, .int q.1, .ref q_history, .ref pgh0, .ref q_notice, .int q.2.1, .int q.2.2]))], wSt G va u_10]) H := hP
          have hD : va_D A (fl [[(pgh0, .inr (9, [.int u_13.2.1, .int u_13.2.2.1, .int u_13.2.2.2.1, .int u_13.2.2.2.2, .ref tbh0]))], [(tbh0, .inr (1, [.ref tbh1, .int (0 : Int32), .int tb.2.2.1, .int tb.2.2.2]))], [(tbh1, .inl (G.2.1 2, tb.1, .inl tb.2.1))], [(qh0, .inr (11, [.ref (va 0), .ref q_snapshot, .int q.1, .ref q_history, .ref pgh0, .ref q_notice, .int q.2.1, .int q.2.2]))], wSt G va u_10]) := hD
          refine W.eq (g2 := F0 m 89 ls [.int u_13.1]) rfl ?_
          have hF : f_X9_runCommands q v pg tb x = (lp_X9_runCommands_9 q v pg tb x u_2 n (x2 + 1) u_10 u_13.2) := by subst eu_13; exact hF
          have hok : (okl_lp_X9_runCommands_9 q v pg tb x u_2 n (x2 + 1) u_10 u_13.2) := hok _ eu_13
          refine lv_pop hx hb dX9_runCommands_89 rfl ?_
          refine lv_iinc (v := (x2 + 1)) (lv' := [(2, .int (x2 + 1)), (0, .ref qh0), (1, .int x)]) hx hb dX9_runCommands_90 hl (k := 0) rfl rfl (by decide) rfl (fun ls hl => ?_)
          refine lv_goto (tgt := 9) hx hb dX9_runCommands_93 (by decide) ?_
          exact ih (x2 + 1) u_10 u_13.2 _ _ ls (lv_sub hl [0, 1, 2] rfl) hP hD hS (upI_s (Int32.not_le.mp c_3) hu) hF hok
        · have c_8 : ¬ ((f_X9_faultOfCommand q vL u_6.2.2.1 u_6.2.2.2.1 u_6.2.2.2.2) = 0) := fun e => c_8 (by rw [e])
          have hF := hF.trans (if_neg c_8)
          have hok := Eq.mp (if_neg c_8) hok
          refine lv_iload_n hx hb dX9_runCommands_53 rfl (lv_at hl 0 rfl) ?_
          have hP := fl_sub (cs := [[(qh0, .inr (11, [.ref (va 0), .ref q_snapshot, .int q.1, .ref q_history, .ref pgh0, .ref q_notice, .int q.2.1, .int q.2.2]))], wSt G va vL, [(pgh0, .inr (9, [.int u_6.2.1, .int u_6.2.2.1, .int u_6.2.2.2.1, .int u_6.2.2.2.2, .ref tbh0]))], [(tbh0, .inr (1, [.ref tbh1, .int (0 : Int32), .int tb.2.2.1, .int tb.2.2.2]))], [(tbh1, .inl (G.2.1 2, tb.1, .inl tb.2.1))]]) [3, 4, 0, 1, 2] rfl hP
          have hD := fl_subD (cs := [[(qh0, .inr (11, [.ref (va 0), .ref q_snapshot, .int q.1, .ref q_history, .ref pgh0, .ref q_notice, .int q.2.1, .int q.2.2]))], wSt G va vL, [(pgh0, .inr (9, [.int u_6.2.1, .int u_6.2.2.1, .int u_6.2.2.2.1, .int u_6.2.2.2.2, .ref tbh0]))], [(tbh0, .inr (1, [.ref tbh1, .int (0 : Int32), .int tb.2.2.1, .int tb.2.2.2]))], [(tbh1, .inl (G.2.1 2, tb.1, .inl tb.2.1))]]) [3, 4, 0, 1, 2] rfl rfl hD
          exact w_ret (u := (x2, vL, u_6.2)) hx hb hr hlk rfl hS rfl hF.symm hP hD (Nat.le_of_ble_eq_true rfl) (Nat.le_of_ble_eq_true rfl) dX9_runCommands_54
  exact L9 (((x).toInt - ((0 : Int32)).toInt).toNat + 1) (0 : Int32) v u_2 _ _ ls (lv_sub hl [0, 1, 2] rfl) hP hD hS (upI_i) hF hok
