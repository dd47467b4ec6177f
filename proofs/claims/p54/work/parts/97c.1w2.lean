theorem dL_loggedResult_0 : decode cL_loggedResult 0 = .ok (.aload_n 0, 1) := by decide +kernel
theorem dL_loggedResult_1 : decode cL_loggedResult 1 = .ok (.iload_n 1, 1) := by decide +kernel
theorem dL_loggedResult_2 : decode cL_loggedResult 2 = .ok (.invokevirtual 79, 3) := by decide +kernel
theorem u_1477 : Cond.methodLink RL 79 yX9_loggedResult ∈ UW := uw 1477 (by decide +kernel) rfl
theorem u_1478 : Cond.instanceMethod yX9_loggedResult ∈ UW := uw 1478 (by decide +kernel) rfl
theorem u_1479 : Cond.selects RX9 yX9_loggedResult yX9_loggedResult ∈ UW := uw 1479 (by decide +kernel) rfl
theorem u_1480 : Cond.code yX9_loggedResult cX9_loggedResult 2 (some .int) ∈ UW := uw 1480 (by decide +kernel) rfl
theorem g_L_79 : GoodIn UW (wsV RL 79 RX9 yX9_loggedResult (wsU yX9_loggedResult cX9_loggedResult 2 (some .int))) := gV u_1477 u_1478 u_1479 u_21 u_1480
theorem hdv_X9_loggedResult : yX9_loggedResult.cls = RX9 ∧ yX9_loggedResult.cls ≠ "java/lang/invoke/MethodHandle" ∧ yX9_loggedResult.cls ≠ "java/lang/invoke/VarHandle" ∧ (parseMethodDescriptor yX9_loggedResult.desc).map (fun d => d.parameters.length) = some 1 := by decide +kernel
theorem dL_loggedResult_6 : decode cL_loggedResult 6 = .ok (.astore_n 2, 1) := by decide +kernel
theorem dL_loggedResult_7 : decode cL_loggedResult 7 = .ok (.ldc 17, 2) := by decide +kernel
theorem dL_loggedResult_9 : decode cL_loggedResult 9 = .ok (.ireturn, 1) := by decide +kernel
theorem dL_loggedResult_5 : decode cL_loggedResult 5 = .ok (.ireturn, 1) := by decide +kernel
set_option maxHeartbeats 8000000 in
set_option maxRecDepth 100000 in
set_option linter.constructorNameAsVariable false in
theorem c_L_loggedResult (l : Launch) (hlf : l.stackTraces = false) (G : GG) (qh0 : Nat) (q_snapshot : Nat) (q_history : Nat) (q_program : Nat) (q_notice : Nat) (va : Nat → Nat) (sz : Nat) (q : McV) (v : StV) (x : Int32) (hok : ok_L_loggedResult q v x) : wMetH l yL_loggedResult cL_loggedResult 3 (some .int) [(0, 5, 6, 39)] 10 1 6 G (fl [[(qh0, .inr (11, [.ref (va 0), .ref q_snapshot, .int q.1, .ref q_history, .ref q_program, .ref q_notice, .int q.2.1, .int q.2.2]))], wSt G va v]) [.ref qh0, .int x] sz (fun u : Int32 => some (.int u)) (fun u : Int32 => u = f_L_loggedResult q v x) (fun u : Int32 => fl [[(qh0, .inr (11, [.ref (va 0), .ref q_snapshot, .int q.1, .ref q_history, .ref q_program, .ref q_notice, .int q.2.1, .int q.2.2]))], wSt G va v]) := by
  refine w_startH (by decide +kernel) (Nat.le_of_ble_eq_true rfl) ?_
  intro p e s m below meth c A hx hb hr hml hts hown hlk hin hxt hP hD hA hK hST ls hl
  have hS : va_S A s.heap s.heap [] := va_S.rf
  have hown : s.vm.findClass RL = some m.cls := hown
  have hl : lv_has ls 3 [(0, .ref qh0), (1, .int x)] := hl
  have hF : f_L_loggedResult q v x = (if (f_X9_loggedResult q v x).1 = "" then (f_X9_loggedResult q v x).2 else (if (f_X9_loggedResult q v x).1 = "java/util/NoSuchElementException" then (-900001 : Int32) else 0)) := rfl
  have hok : (if (f_X9_loggedResult q v x).1 = "" then True else (if (f_X9_loggedResult q v x).1 = "java/util/NoSuchElementException" then True else False)) := hok
  refine lv_aload_n hx hb dL_loggedResult_0 rfl (lv_at hl 0 rfl) ?_
  refine lv_iload_n hx hb dL_loggedResult_1 rfl (lv_at hl 1 rfl) ?_
  refine xr_V (own := RL) (v := (some (.int ((f_X9_loggedResult q v x).2)))) (st1 := [.int ((f_X9_loggedResult q v x).2)]) (As := [.int x]) (rest := []) (c_X9_loggedResultS l hlf G qh0 q_snapshot q_history q_program q_notice va q v x) ⟨hx, hb, hml, hown, hts⟩ g_L_79 hdv_X9_loggedResult hK hST hS hP [0, 1, 2, 3, 4, 5, 6, 7, 8, 9, 10, 11, 12, 13, 14, 15, 16, 17, 18, 19, 20] rfl (k0 := 0) rfl rfl rfl ⟨Nat.le_of_ble_eq_true rfl, Nat.le_of_ble_eq_true rfl⟩ ⟨Nat.le_of_ble_eq_true rfl, Nat.le_of_ble_eq_true rfl⟩ rfl hl.1 rfl (Nat.le_of_ble_eq_true rfl) dL_loggedResult_2 rfl (fun E ce q9 H hE h1 h2 h3 h4 h5 => ?_) (fun b_1 => ?_)
  · have hF := hF.trans (if_neg (fun e => hE.2 (hE.1.trans e)))
    have hok := Eq.mp (if_neg (fun e => hE.2 (hE.1.trans e))) hok
    have hP := hP.kept (fun k q hk => h2 q.1 ((hP k q hk).lt))
    have hS : va_S A s.heap H _ := ⟨Nat.le_trans hS.1 h1, fun q hq hA => (h2 q (Nat.lt_of_lt_of_le hq hS.1)).trans (hS.2.1 q hq hA), hS.2.2⟩
    by_cases c_2 : (f_X9_loggedResult q v x).1 = "java/util/NoSuchElementException"
    · have hF := hF.trans (if_pos c_2)
      have hok := Eq.mp (if_pos c_2) hok
      have hEE : E = "java/util/NoSuchElementException" := hE.1.trans c_2
      subst hEE
      refine vx_catch (own := RL) (name := "java/util/NoSuchElementException") hown [] (⟨0, 5, 6, 39⟩ : ExceptionTableEntry) [] (hxt.trans rfl) (fun z hz => nomatch hz) (by decide) (by decide) (hts _ u_840) (va_tabs rfl rfl (hST.2.2.2.2.2.2.2.1 _ cst_NoSuchElementException)) h3 h4 h5 ?_
      refine W.eq (g2 := F0 m 6 ls [.ref q9]) rfl ?_
      refine lv_astore_n (lv' := [(2, .ref q9), (0, .ref qh0), (1, .int x)]) hx hb dL_loggedResult_6 rfl hl (by decide) rfl (fun ls hl => ?_)
      refine lv_ldc hx hb hown (hts _ u_704) dL_loggedResult_7 ?_
      exact w_ret (u := (-900001 : Int32)) hx hb hr hlk rfl hS rfl hF.symm hP hD (Nat.le_of_ble_eq_true rfl) (Nat.le_of_ble_eq_true rfl) dL_loggedResult_9
    · have hF := hF.trans (if_neg c_2)
      have hok := Eq.mp (if_neg c_2) hok
      exact hok.elim
  · have hE := b_1.1
    have b_1 := b_1.2
    have hF := hF.trans (if_pos hE)
    have hok := Eq.mp (if_pos hE) hok
    exact w_ret (u := (f_X9_loggedResult q v x).2) hx hb hr hlk rfl hS rfl hF.symm hP hD (Nat.le_of_ble_eq_true rfl) (Nat.le_of_ble_eq_true rfl) dL_loggedResult_5
theorem dL_setCycle_0 : decode cL_setCycle 0 = .ok (.aload_n 0, 1) := by decide +kernel
theorem dL_setCycle_1 : decode cL_setCycle 1 = .ok (.iload_n 1, 1) := by decide +kernel
theorem dL_setCycle_2 : decode cL_setCycle 2 = .ok (.invokevirtual 82, 3) := by decide +kernel
theorem u_878 : Cond.methodLink RL 82 yX9_setCycle ∈ UW := uw 878 (by decide +kernel) rfl
theorem u_879 : Cond.instanceMethod yX9_setCycle ∈ UW := uw 879 (by decide +kernel) rfl
theorem u_880 : Cond.selects RX9 yX9_setCycle yX9_setCycle ∈ UW := uw 880 (by decide +kernel) rfl
theorem u_881 : Cond.code yX9_setCycle cX9_setCycle 2 (some .int) ∈ UW := uw 881 (by decide +kernel) rfl
theorem g_L_82 : GoodIn UW (wsV RL 82 RX9 yX9_setCycle (wsU yX9_setCycle cX9_setCycle 2 (some .int))) := gV u_878 u_879 u_880 u_21 u_881
theorem hdv_X9_setCycle : yX9_setCycle.cls = RX9 ∧ yX9_setCycle.cls ≠ "java/lang/invoke/MethodHandle" ∧ yX9_setCycle.cls ≠ "java/lang/invoke/VarHandle" ∧ (parseMethodDescriptor yX9_setCycle.desc).map (fun d => d.parameters.length) = some 1 := by decide +kernel
theorem dL_setCycle_5 : decode cL_setCycle 5 = .ok (.ireturn, 1) := by decide +kernel
theorem dL_setCycle_6 : decode cL_setCycle 6 = .ok (.astore_n 2, 1) := by decide +kernel
theorem dL_setCycle_7 : decode cL_setCycle 7 = .ok (.ldc 17, 2) := by decide +kernel
theorem dL_setCycle_9 : decode cL_setCycle 9 = .ok (.ireturn, 1) := by decide +kernel
set_option maxHeartbeats 8000000 in
set_option maxRecDepth 100000 in
set_option linter.constructorNameAsVariable false in
theorem c_L_setCycle (l : Launch) (hlf : l.stackTraces = false) (G : GG) (qh0 : Nat) (q_snapshot : Nat) (q_program : Nat) (q_notice : Nat) (va : Nat → Nat) (hih0 : Nat) (hsh : Nat) (hsa : Nat → Nat → Nat) (sz : Nat) (q : McV) (v : StV) (hi : HiV) (hs : Nat → StV) (dy : Int32) (hok : ok_L_setCycle q v hi hs dy) : wMetH l yL_setCycle cL_setCycle 3 (some .int) [(0, 5, 6, 15)] 10 1 6 G (fl [[(qh0, .inr (11, [.ref (va 0), .ref q_snapshot, .int q.1, .ref hih0, .ref q_program, .ref q_notice, .int q.2.1, .int q.2.2]))], wSt G va v, [(hih0, .inr (7, [.int hi.1, .int hi.2, .ref hsh]))], wHs G hsh hsa hs]) [.ref qh0, .int dy] sz (fun u : Int32 × StV × HiV × (Nat → StV) => some (.int u.1)) (fun u : Int32 × StV × HiV × (Nat → StV) => u = f_L_setCycle q v hi hs dy) (fun u : Int32 × StV × HiV × (Nat → StV) => fl [[(qh0, .inr (11, [.ref (va 0), .ref q_snapshot, .int q.1, .ref hih0, .ref q_program, .ref q_notice, .int q.2.1, .int q.2.2]))], wSt G va u.2.1, [(hih0, .inr (7, [.int u.2.2.1.1, .int u.2.2.1.2, .ref hsh]))], wHs G hsh hsa u.2.2.2]) := by
  refine w_startH (by decide +kernel) (Nat.le_of_ble_eq_true rfl) ?_
  intro p e s m below meth c A hx hb hr hml hts hown hlk hin hxt hP hD hA hK hST ls hl
  have hS : va_S A s.heap s.heap [] := va_S.rf
  have hown : s.vm.findClass RL = some m.cls := hown
  have hl : lv_has ls 3 [(0, .ref qh0), (1, .int dy)] := hl
  have hF : f_L_setCycle q v hi hs dy = (let uu_3 : String × Int32 × StV × HiV × (Nat → StV) := (f_X9_setCycle q v hi hs dy); (if uu_3.1 = "" then (uu_3.2.1, uu_3.2.2.1, uu_3.2.2.2.1, uu_3.2.2.2.2) else (if (f_X9_setCycle q v hi hs dy).1 = "java/lang/IllegalArgumentException" then ((-900001 : Int32), v, hi, hs) else (0, v, hi, hs)))) := rfl
  have hok : (nx9 hi.2 ∧ (let uu_3 : String × Int32 × StV × HiV × (Nat → StV) := (f_X9_setCycle q v hi hs dy); (if uu_3.1 = "" then True else (if (f_X9_setCycle q v hi hs dy).1 = "java/lang/IllegalArgumentException" then True else False)))) := hok
  refine lv_aload_n hx hb dL_setCycle_0 rfl (lv_at hl 0 rfl) ?_
  refine lv_iload_n hx hb dL_setCycle_1 rfl (lv_at hl 1 rfl) ?_
  have k_1 := hok.1
  have hok := hok.2
  refine xw_V (own := RL) (cs := [[(qh0, .inr (11, [.ref (va 0), .ref q_snapshot, .int q.1, .ref hih0, .ref q_program, .ref q_notice, .int q.2.1, .int q.2.2]))], wSt G va v, [(hih0, .inr (7, [.int hi.1, .int hi.2, .ref hsh]))], wHs G hsh hsa hs]) (rs := []) (As := [.int dy]) (rest := []) (c_X9_setCycleS l hlf G qh0 q_snapshot q_program q_notice va hih0 hsh hsa s.heap.size q v hi hs dy k_1) ⟨hx, hb, hml, hown, hts⟩ g_L_82 hdv_X9_setCycle hK hST hS hP hD hA [0, 1, 2, 3] [] rfl rfl rfl (k0 := 0) rfl rfl rfl ⟨Nat.le_of_ble_eq_true rfl, Nat.le_of_ble_eq_true rfl⟩ ⟨Nat.le_of_ble_eq_true rfl, Nat.le_of_ble_eq_true rfl⟩ rfl hl.1 rfl (Nat.le_of_ble_eq_true rfl) dL_setCycle_2 (fun E ce q9 H locs hE hP hS h3 h4 h5 => ?_) (fun uu_3 H locs huu hP hD hS => ?_)
  rotate_left
  obtain ⟨huu, b_2⟩ := huu
  rw [← huu] at b_2
  have euu_3 := huu
  have hP : va_P G.1 vwCl (fl [[(qh0, .inr (11, [.ref (va 0), .ref q_snapshot, .int q.1, .ref hih0, .ref q_program, .ref q_notice, .int q.2.1, .int q.2.2]))], wSt G va uu_3.2.2.1, [(hih0, .inr (7, [.int uu_3.2.2.2.1.1, .int uu_3.2.2.2.1.2, .ref hsh]))], wHs G hsh hsa uu_3.2.2.2.2]) H := hP
  have hD : va_D A (fl [[(qh0, .inr (11, [.ref (va 0), .ref q_snapshot, .int q.1, .ref hih0, .ref q_program, .ref q_notice, .int q.2.1, .int q.2.2]))], wSt G va uu_3.2.2.1, [(hih0, .inr (7, [.int uu_3.2.2.2.1.1, .int uu_3.2.2.2.1.2, .ref hsh]))], wHs G hsh hsa uu_3.2.2.2.2]) := hD
  refine W.eq (g2 := F0 m 5 ls [.int uu_3.2.1]) rfl ?_
  have hE := b_2.1
  have hF : f_L_setCycle q v hi hs dy = (if uu_3.1 = "" then (uu_3.2.1, uu_3.2.2.1, uu_3.2.2.2.1, uu_3.2.2.2.2) else (if (f_X9_setCycle q v hi hs dy).1 = "java/lang/IllegalArgumentException" then ((-900001 : Int32), v, hi, hs) else (0, v, hi, hs))) := by subst euu_3; exact hF
  have hF := hF.trans (if_pos hE)
  have hok : (if uu_3.1 = "" then True else (if (f_X9_setCycle q v hi hs dy).1 = "java/lang/IllegalArgumentException" then True else False)) := by subst euu_3; exact hok
  have hok := Eq.mp (if_pos hE) hok
  exact w_ret (u := (uu_3.2.1, uu_3.2.2.1, uu_3.2.2.2.1, uu_3.2.2.2.2)) hx hb hr hlk rfl hS rfl hF.symm hP hD (Nat.le_of_ble_eq_true rfl) (Nat.le_of_ble_eq_true rfl) dL_setCycle_5
  have hF := hF.trans (if_neg (fun e => hE.2 (hE.1.trans e)))
  have hok := Eq.mp (if_neg (fun e => hE.2 (hE.1.trans e))) hok
  by_cases c_4 : (f_X9_setCycle q v hi hs dy).1 = "java/lang/IllegalArgumentException"
  · have hF := hF.trans (if_pos c_4)
    have hok := Eq.mp (if_pos c_4) hok
    have hEE : E = "java/lang/IllegalArgumentException" := hE.1.trans c_4
    subst hEE
    refine vx_catch (own := RL) (name := "java/lang/IllegalArgumentException") hown [] (⟨0, 5, 6, 15⟩ : ExceptionTableEntry) [] (hxt.trans rfl) (fun z hz => nomatch hz) (by decide) (by decide) (hts _ u_581) (va_tabs rfl rfl (hST.2.2.2.2.2.2.2.1 _ cst_IllegalArgumentException)) h3 h4 h5 ?_
    refine W.eq (g2 := F0 m 6 ls [.ref q9]) rfl ?_
    refine lv_astore_n (lv' := [(2, .ref q9), (0, .ref qh0), (1, .int dy)]) hx hb dL_setCycle_6 rfl hl (by decide) rfl (fun ls hl => ?_)
    refine lv_ldc hx hb hown (hts _ u_704) dL_setCycle_7 ?_
    exact w_ret (u := ((-900001 : Int32), v, hi, hs)) hx hb hr hlk rfl hS rfl hF.symm hP hD (Nat.le_of_ble_eq_true rfl) (Nat.le_of_ble_eq_true rfl) dL_setCycle_9
  · have hF := hF.trans (if_neg c_4)
    have hok := Eq.mp (if_neg c_4) hok
    exact hok.elim
theorem dL_execute_0 : decode cL_execute 0 = .ok (.aload_n 0, 1) := by decide +kernel
theorem dL_execute_1 : decode cL_execute 1 = .ok (.invokevirtual 85, 3) := by decide +kernel
theorem u_1302 : Cond.methodLink RL 85 yX9_execute ∈ UW := uw 1302 (by decide +kernel) rfl
theorem u_1303 : Cond.instanceMethod yX9_execute ∈ UW := uw 1303 (by decide +kernel) rfl
theorem u_1304 : Cond.selects RX9 yX9_execute yX9_execute ∈ UW := uw 1304 (by decide +kernel) rfl
theorem u_1305 : Cond.code yX9_execute cX9_execute 3 (some .int) ∈ UW := uw 1305 (by decide +kernel) rfl
theorem g_L_85 : GoodIn UW (wsV RL 85 RX9 yX9_execute (wsU yX9_execute cX9_execute 3 (some .int))) := gV u_1302 u_1303 u_1304 u_21 u_1305
theorem hdv_X9_execute : yX9_execute.cls = RX9 ∧ yX9_execute.cls ≠ "java/lang/invoke/MethodHandle" ∧ yX9_execute.cls ≠ "java/lang/invoke/VarHandle" ∧ (parseMethodDescriptor yX9_execute.desc).map (fun d => d.parameters.length) = some 0 := by decide +kernel
theorem dL_execute_4 : decode cL_execute 4 = .ok (.ireturn, 1) := by decide +kernel
theorem dL_execute_5 : decode cL_execute 5 = .ok (.astore_n 1, 1) := by decide +kernel
theorem dL_execute_6 : decode cL_execute 6 = .ok (.ldc 17, 2) := by decide +kernel
theorem dL_execute_8 : decode cL_execute 8 = .ok (.ireturn, 1) := by decide +kernel
theorem dL_execute_9 : decode cL_execute 9 = .ok (.astore_n 1, 1) := by decide +kernel
theorem dL_execute_10 : decode cL_execute 10 = .ok (.ldc 20, 2) := by decide +kernel
theorem dL_execute_12 : decode cL_execute 12 = .ok (.ireturn, 1) := by decide +kernel
set_option maxHeartbeats 8000000 in
set_option maxRecDepth 100000 in
set_option linter.constructorNameAsVariable false in
theorem c_L_execute (l : Launch) (hlf : l.stackTraces = false) (G : GG) (qh0 : Nat) (q_snapshot : Nat) (q_notice : Nat) (va : Nat → Nat) (hih0 : Nat) (hsh : Nat) (hsa : Nat → Nat → Nat) (pgh0 : Nat) (tbh0 : Nat) (tbh1 : Nat) (sz : Nat) (q : McV) (v : StV) (hi : HiV) (hs : Nat → StV) (pg : PrV) (tb : SbV) (hok : ok_L_execute q v hi hs pg tb) : wMetH l yL_execute cL_execute 2 (some .int) [(0, 4, 5, 15), (0, 4, 9, 18)] 12 2 206 G (fl [[(qh0, .inr (11, [.ref (va 0), .ref q_snapshot, .int q.1, .ref hih0, .ref pgh0, .ref q_notice, .int q.2.1, .int q.2.2]))], wSt G va v, [(hih0, .inr (7, [.int hi.1, .int hi.2, .ref hsh]))], wHs G hsh hsa hs, [(pgh0, .inr (9, [.int pg.1, .int pg.2.1, .int pg.2.2.1, .int pg.2.2.2, .ref tbh0]))], [(tbh0, .inr (1, [.ref tbh1, .int (0 : Int32), .int tb.2.2.1, .int tb.2.2.2]))], [(tbh1, .inl (G.2.1 2, tb.1, .inl tb.2.1))]]) [.ref qh0] sz (fun u : Nat × Int32 × McV × StV × HiV × (Nat → StV) × PrV × SbV => some (.int u.2.1)) (fun u : Nat × Int32 × McV × StV × HiV × (Nat → StV) × PrV × SbV => u.2 = f_L_execute q v hi hs pg tb) (fun u : Nat × Int32 × McV × StV × HiV × (Nat → StV) × PrV × SbV => fl [[(qh0, .inr (11, [.ref (va 0), .ref q_snapshot, .int u.2.2.1.1, .ref hih0, .ref pgh0, .ref q_notice, .int u.2.2.1.2.1, .int u.2.2.1.2.2]))], wSt G va u.2.2.2.1, [(hih0, .inr (7, [.int u.2.2.2.2.1.1, .int u.2.2.2.2.1.2, .ref hsh]))], wHs G hsh hsa u.2.2.2.2.2.1, [(pgh0, .inr (9, [.int u.2.2.2.2.2.2.1.1, .int u.2.2.2.2.2.2.1.2.1, .int u.2.2.2.2.2.2.1.2.2.1, .int u.2.2.2.2.2.2.1.2.2.2, .ref tbh0]))], [(tbh0, .inr (1, [.ref u.1, .int (0 : Int32), .int u.2.2.2.2.2.2.2.2.2.1, .int u.2.2.2.2.2.2.2.2.2.2]))], [(u.1, .inl (G.2.1 2, u.2.2.2.2.2.2.2.1, .inl u.2.2.2.2.2.2.2.2.1))]]) := by
  refine w_startH (by decide +kernel) (Nat.le_of_ble_eq_true rfl) ?_
  intro p e s m below meth c A hx hb hr hml hts hown hlk hin hxt hP hD hA hK hST ls hl
  have hS : va_S A s.heap s.heap [] := va_S.rf
  have hown : s.vm.findClass RL = some m.cls := hown
  have hl : lv_has ls 2 [(0, .ref qh0)] := hl
  have hF : f_L_execute q v hi hs pg tb = (let uu_4 : String × Int32 × McV × StV × HiV × (Nat → StV) × PrV × SbV := (f_X9_execute q v hi hs pg tb); (if uu_4.1 = "" then (uu_4.2.1, uu_4.2.2.1, uu_4.2.2.2.1, uu_4.2.2.2.2.1, uu_4.2.2.2.2.2.1, uu_4.2.2.2.2.2.2.1, uu_4.2.2.2.2.2.2.2) else (if (f_X9_execute q v hi hs pg tb).1 = "java/lang/IllegalArgumentException" then ((-900001 : Int32), (f_X9_execute q v hi hs pg tb).2.2.1, (f_X9_execute q v hi hs pg tb).2.2.2.1, (f_X9_execute q v hi hs pg tb).2.2.2.2.1, (f_X9_execute q v hi hs pg tb).2.2.2.2.2.1, (f_X9_execute q v hi hs pg tb).2.2.2.2.2.2.1, (f_X9_execute q v hi hs pg tb).2.2.2.2.2.2.2) else (if (f_X9_execute q v hi hs pg tb).1 = "java/lang/IllegalStateException" then ((-900002 : Int32), (f_X9_execute q v hi hs pg tb).2.2.1, (f_X9_execute q v hi hs pg tb).2.2.2.1, (f_X9_execute q v hi hs pg tb).2.2.2.2.1, (f_X9_execute q v hi hs pg tb).2.2.2.2.2.1, (f_X9_execute q v hi hs pg tb).2.2.2.2.2.2.1, (f_X9_execute q v hi hs pg tb).2.2.2.2.2.2.2) else (0, q, v, hi, hs, pg, tb))))) := rfl
  have hok : (ok_X9_execute q v hi hs pg tb ∧ (nx9 hi.2 ∧ (∀ uu_4 : String × Int32 × McV × StV × HiV × (Nat → StV) × PrV × SbV, uu_4 = (f_X9_execute q v hi hs pg tb) → (if uu_4.1 = "" then True else (if (f_X9_execute q v hi hs pg tb).1 = "java/lang/IllegalArgumentException" then True else (if (f_X9_execute q v hi hs pg tb).1 = "java/lang/IllegalStateException" then True else False)))))) := hok
  refine lv_aload_n hx hb dL_execute_0 rfl (lv_at hl 0 rfl) ?_
  have k_1 := hok.1
  have hok := hok.2
  have k_2 := hok.1
  have hok := hok.2
  refine xx_V (own := RL) (cs := [[(qh0, .inr (11, [.ref (va 0), .ref q_snapshot, .int q.1, .ref hih0, .ref pgh0, .ref q_notice, .int q.2.1, .int q.2.2]))], wSt G va v, [(hih0, .inr (7, [.int hi.1, .int hi.2, .ref hsh]))], wHs G hsh hsa hs, [(pgh0, .inr (9, [.int pg.1, .int pg.2.1, .int pg.2.2.1, .int pg.2.2.2, .ref tbh0]))], [(tbh0, .inr (1, [.ref tbh1, .int (0 : Int32), .int tb.2.2.1, .int tb.2.2.2]))], [(tbh1, .inl (G.2.1 2, tb.1, .inl tb.2.1))]]) (rs := []) (As := []) (rest := []) (c_X9_execute l hlf G qh0 q_snapshot q_notice va hih0 hsh hsa pgh0 tbh0 tbh1 s.heap.size q v hi hs pg tb k_1 k_2) ⟨hx, hb, hml, hown, hts⟩ g_L_85 hdv_X9_execute hK hST hS hP hD hA [0, 1, 2, 3, 4, 5, 6] [] rfl rfl rfl (k0 := 0) rfl rfl rfl ⟨Nat.le_of_ble_eq_true rfl, Nat.le_of_ble_eq_true rfl⟩ ⟨Nat.le_of_ble_eq_true rfl, Nat.le_of_ble_eq_true rfl⟩ rfl hl.1 rfl (Nat.le_of_ble_eq_true rfl) dL_execute_1 (fun E ce q9 u9 H locs hE hP hD hS h3 h4 h5 => ?_) (fun uu_4 H locs huu hP hD hS => ?_)
  rotate_left
  obtain ⟨quu_4, uu_4⟩ := uu_4
  obtain ⟨huu, b_3⟩ := huu
  have huu : uu_4 = (f_X9_execute q v hi hs pg tb) := huu
  rw [← huu] at b_3
  have euu_4 : uu_4 = (f_X9_execute q v hi hs pg tb) := huu
  have hP : va_P G.1 vwCl (fl [[(qh0, .inr (11, [.ref (va 0), .ref q_snapshot, .int uu_4.2.2.1.1, .ref hih0, .ref pgh0, .ref q_notice, .int uu_4.2.2.1.2.1, .int uu_4.2.2.1.2.2]))], wSt G va uu_4.2.2.2.1, [(hih0, .inr (7, [.int uu_4.2.2.2.2.1.1, .int uu_4.2.2.2.2.1.2, .ref hsh]))], wHs G hsh hsa uu_4.2.2.2.2.2.1, [(pgh0, .inr (9, [.int uu_4.2.2.2.2.2.2.1.1, .int uu_4.2.2.2.2.2.2.1.2.1, .int uu_4.2.2.2.2.2.2.1.2.2.1, .int uu_4.2.2.2.2.2.2.1.2.2.2, .ref tbh0]))], [(tbh0, .inr (1, [.ref quu_4, .int (0 : Int32), .int uu_4.2.2.2.2.2.2.2.2.2.1, .int uu_4.2.2.2.2.2.2.2.2.2.2]))], [(quu_4, .inl (G.2.1 2, uu_4.2.2.2.2.2.2.2.1, .inl uu_4.2.2.2.2.2.2.2.2.1))]]) H := hP
  have hD : va_D A (fl [[(qh0, .inr (11, [.ref (va 0), .ref q_snapshot, .int uu_4.2.2.1.1, .ref hih0, .ref pgh0, .ref q_notice, .int uu_4.2.2.1.2.1, .int uu_4.2.2.1.2.2]))], wSt G va uu_4.2.2.2.1, [(hih0, .inr (7, [.int uu_4.2.2.2.2.1.1, .int uu_4.2.2.2.2.1.2, .ref hsh]))], wHs G hsh hsa uu_4.2.2.2.2.2.1, [(pgh0, .inr (9, [.int uu_4.2.2.2.2.2.2.1.1, .int uu_4.2.2.2.2.2.2.1.2.1, .int uu_4.2.2.2.2.2.2.1.2.2.1, .int uu_4.2.2.2.2.2.2.1.2.2.2, .ref tbh0]))], [(tbh0, .inr (1, [.ref quu_4, .int (0 : Int32), .int uu_4.2.2.2.2.2.2.2.2.2.1, .int uu_4.2.2.2.2.2.2.2.2.2.2]))], [(quu_4, .inl (G.2.1 2, uu_4.2.2.2.2.2.2.2.1, .inl uu_4.2.2.2.2.2.2.2.2.1))]]) := hD
  refine W.eq (g2 := F0 m 4 ls [.int uu_4.2.1]) rfl ?_
  have hE := b_3.1
  rw [← euu_4] at hF
  have hF := hF.trans (if_pos hE)
  have hok : (if uu_4.1 = "" then True else (if (f_X9_execute q v hi hs pg tb).1 = "java/lang/IllegalArgumentException" then True else (if (f_X9_execute q v hi hs pg tb).1 = "java/lang/IllegalStateException" then True else False))) := hok _ euu_4
  have hok := Eq.mp (if_pos hE) hok
  exact w_ret (u := (quu_4, (uu_4.2.1, uu_4.2.2.1, uu_4.2.2.2.1, uu_4.2.2.2.2.1, uu_4.2.2.2.2.2.1, uu_4.2.2.2.2.2.2.1, uu_4.2.2.2.2.2.2.2))) hx hb hr hlk rfl hS rfl hF.symm hP hD (Nat.le_of_ble_eq_true rfl) (Nat.le_of_ble_eq_true rfl) dL_execute_4
  obtain ⟨quu_4, u9⟩ := u9
  obtain ⟨e9, hE⟩ := hE
  have e9 : u9 = (f_X9_execute q v hi hs pg tb) := e9
  have hE : E = u9.1 ∧ E ≠ "" := hE
  rw [← e9] at hF
  have hok := hok _ e9
  rw [← e9] at hok
  have hP : va_P G.1 vwCl (fl [[(qh0, .inr (11, [.ref (va 0), .ref q_snapshot, .int u9.2.2.1.1, .ref hih0, .ref pgh0, .ref q_notice, .int u9.2.2.1.2.1, .int u9.2.2.1.2.2]))], wSt G va u9.2.2.2.1, [(hih0, .inr (7, [.int u9.2.2.2.2.1.1, .int u9.2.2.2.2.1.2, .ref hsh]))], wHs G hsh hsa u9.2.2.2.2.2.1, [(pgh0, .inr (9, [.int u9.2.2.2.2.2.2.1.1, .int u9.2.2.2.2.2.2.1.2.1, .int u9.2.2.2.2.2.2.1.2.2.1, .int u9.2.2.2.2.2.2.1.2.2.2, .ref tbh0]))], [(tbh0, .inr (1, [.ref quu_4, .int (0 : Int32), .int u9.2.2.2.2.2.2.2.2.2.1, .int u9.2.2.2.2.2.2.2.2.2.2]))], [(quu_4, .inl (G.2.1 2, u9.2.2.2.2.2.2.2.1, .inl u9.2.2.2.2.2.2.2.2.1))]]) H := hP
  have hD : va_D A (fl [[(qh0, .inr (11, [.ref (va 0), .ref q_snapshot, .int u9.2.2.1.1, .ref hih0, .ref pgh0, .ref q_notice, .int u9.2.2.1.2.1, .int u9.2.2.1.2.2]))], wSt G va u9.2.2.2.1, [(hih0, .inr (7, [.int u9.2.2.2.2.1.1, .int u9.2.2.2.2.1.2, .ref hsh]))], wHs G hsh hsa u9.2.2.2.2.2.1, [(pgh0, .inr (9, [.int u9.2.2.2.2.2.2.1.1, .int u9.2.2.2.2.2.2.1.2.1, .int u9.2.2.2.2.2.2.1.2.2.1, .int u9.2.2.2.2.2.2.1.2.2.2, .ref tbh0]))], [(tbh0, .inr (1, [.ref quu_4, .int (0 : Int32), .int u9.2.2.2.2.2.2.2.2.2.1, .int u9.2.2.2.2.2.2.2.2.2.2]))], [(quu_4, .inl (G.2.1 2, u9.2.2.2.2.2.2.2.1, .inl u9.2.2.2.2.2.2.2.2.1))]]) := hD
  have hF := hF.trans (if_neg (fun e => hE.2 (hE.1.trans e)))
  have hok := Eq.mp (if_neg (fun e => hE.2 (hE.1.trans e))) hok
  by_cases c_5 : u9.1 = "java/lang/IllegalArgumentException"
  · have hF := hF.trans (if_pos c_5)
    have hok := Eq.mp (if_pos c_5) hok
    have hEE : E = "java/lang/IllegalArgumentException" := hE.1.trans c_5
    subst hEE
    refine vx_catch (own := RL) (name := "java/lang/IllegalArgumentException") hown [] (⟨0, 4, 5, 15⟩ : ExceptionTableEntry) [(⟨0, 4, 9, 18⟩ : ExceptionTableEntry)] (hxt.trans rfl) (fun z hz => nomatch hz) (by decide) (by decide) (hts _ u_581) (va_tabs rfl rfl (hST.2.2.2.2.2.2.2.1 _ cst_IllegalArgumentException)) h3 h4 h5 ?_
    refine W.eq (g2 := F0 m 5 ls [.ref q9]) rfl ?_
    refine lv_astore_n (lv' := [(1, .ref q9), (0, .ref qh0)]) hx hb dL_execute_5 rfl hl (by decide) rfl (fun ls hl => ?_)
    refine lv_ldc hx hb hown (hts _ u_704) dL_execute_6 ?_
    exact w_ret (u := (quu_4, ((-900001 : Int32), u9.2.2.1, u9.2.2.2.1, u9.2.2.2.2.1, u9.2.2.2.2.2.1, u9.2.2.2.2.2.2.1, u9.2.2.2.2.2.2.2))) hx hb hr hlk rfl hS rfl hF.symm hP hD (Nat.le_of_ble_eq_true rfl) (Nat.le_of_ble_eq_true rfl) dL_execute_8
  · have hF := hF.trans (if_neg c_5)
    have hok := Eq.mp (if_neg c_5) hok
    by_cases c_6 : u9.1 = "java/lang/IllegalStateException"
    · have hF := hF.trans (if_pos c_6)
      have hok := Eq.mp (if_pos c_6) hok
      have hEE : E = "java/lang/IllegalStateException" := hE.1.trans c_6
      subst hEE
      refine vx_catch (own := RL) (name := "java/lang/IllegalStateException") hown [(⟨0, 4, 5, 15⟩ : ExceptionTableEntry)] (⟨0, 4, 9, 18⟩ : ExceptionTableEntry) [] (hxt.trans rfl) (List.forall_mem_cons.mpr ⟨Or.inr ⟨by decide, "java/lang/IllegalArgumentException", hts _ u_581, hST.2.2.2.2.2.2.2.2.1 ("java/lang/IllegalStateException", "java/lang/IllegalArgumentException") (by decide +kernel)⟩, fun _ h => nomatch h⟩) (by decide) (by decide) (hts _ u_583) (va_tabs rfl rfl (hST.2.2.2.2.2.2.2.1 _ cst_IllegalStateException)) h3 h4 h5 ?_
      refine W.eq (g2 := F0 m 9 ls [.ref q9]) rfl ?_
      refine lv_astore_n (lv' := [(1, .ref q9), (0, .ref qh0)]) hx hb dL_execute_9 rfl hl (by decide) rfl (fun ls hl => ?_)
      refine lv_ldc hx hb hown (hts _ u_705) dL_execute_10 ?_
      exact w_ret (u := (quu_4, ((-900002 : Int32), u9.2.2.1, u9.2.2.2.1, u9.2.2.2.2.1, u9.2.2.2.2.2.1, u9.2.2.2.2.2.2.1, u9.2.2.2.2.2.2.2))) hx hb hr hlk rfl hS rfl hF.symm hP hD (Nat.le_of_ble_eq_true rfl) (Nat.le_of_ble_eq_true rfl) dL_execute_12
    · have hF := hF.trans (if_neg c_6)
      have hok := Eq.mp (if_neg c_6) hok
      exact hok.elim
theorem dL_undo_0 : decode cL_undo 0 = .ok (.aload_n 0, 1) := by decide +kernel
theorem dL_undo_1 : decode cL_undo 1 = .ok (.invokevirtual 88, 3) := by decide +kernel
theorem u_892 : Cond.methodLink RL 88 yX9_undo ∈ UW := uw 892 (by decide +kernel) rfl
theorem u_893 : Cond.instanceMethod yX9_undo ∈ UW := uw 893 (by decide +kernel) rfl
theorem u_894 : Cond.selects RX9 yX9_undo yX9_undo ∈ UW := uw 894 (by decide +kernel) rfl
theorem u_895 : Cond.code yX9_undo cX9_undo 1 (some .int) ∈ UW := uw 895 (by decide +kernel) rfl
theorem g_L_88 : GoodIn UW (wsV RL 88 RX9 yX9_undo (wsU yX9_undo cX9_undo 1 (some .int))) := gV u_892 u_893 u_894 u_21 u_895
theorem hdv_X9_undo : yX9_undo.cls = RX9 ∧ yX9_undo.cls ≠ "java/lang/invoke/MethodHandle" ∧ yX9_undo.cls ≠ "java/lang/invoke/VarHandle" ∧ (parseMethodDescriptor yX9_undo.desc).map (fun d => d.parameters.length) = some 0 := by decide +kernel
theorem dL_undo_4 : decode cL_undo 4 = .ok (.ireturn, 1) := by decide +kernel
theorem dL_undo_5 : decode cL_undo 5 = .ok (.astore_n 1, 1) := by decide +kernel
theorem dL_undo_6 : decode cL_undo 6 = .ok (.ldc 17, 2) := by decide +kernel
theorem dL_undo_8 : decode cL_undo 8 = .ok (.ireturn, 1) := by decide +kernel
set_option maxHeartbeats 8000000 in
set_option maxRecDepth 100000 in
set_option linter.constructorNameAsVariable false in
theorem c_L_undo (l : Launch) (hlf : l.stackTraces = false) (G : GG) (qh0 : Nat) (q_snapshot : Nat) (q_program : Nat) (q_notice : Nat) (va : Nat → Nat) (hih0 : Nat) (hsh : Nat) (hsa : Nat → Nat → Nat) (sz : Nat) (q : McV) (v : StV) (hi : HiV) (hs : Nat → StV) (hok : ok_L_undo q v hi hs) : wMetH l yL_undo cL_undo 2 (some .int) [(0, 4, 5, 18)] 9 1 6 G (fl [[(qh0, .inr (11, [.ref (va 0), .ref q_snapshot, .int q.1, .ref hih0, .ref q_program, .ref q_notice, .int q.2.1, .int q.2.2]))], wSt G va v, [(hih0, .inr (7, [.int hi.1, .int hi.2, .ref hsh]))], wHs G hsh hsa hs]) [.ref qh0] sz (fun u : Int32 × StV × HiV × (Nat → StV) => some (.int u.1)) (fun u : Int32 × StV × HiV × (Nat → StV) => u = f_L_undo q v hi hs) (fun u : Int32 × StV × HiV × (Nat → StV) => fl [[(qh0, .inr (11, [.ref (va 0), .ref q_snapshot, .int q.1, .ref hih0, .ref q_program, .ref q_notice, .int q.2.1, .int q.2.2]))], wSt G va u.2.1, [(hih0, .inr (7, [.int u.2.2.1.1, .int u.2.2.1.2, .ref hsh]))], wHs G hsh hsa u.2.2.2]) := by
  refine w_startH (by decide +kernel) (Nat.le_of_ble_eq_true rfl) ?_
  intro p e s m below meth c A hx hb hr hml hts hown hlk hin hxt hP hD hA hK hST ls hl
  have hS : va_S A s.heap s.heap [] := va_S.rf
  have hown : s.vm.findClass RL = some m.cls := hown
  have hl : lv_has ls 2 [(0, .ref qh0)] := hl
  have hF : f_L_undo q v hi hs = (let uu_3 : String × Int32 × StV × HiV × (Nat → StV) := (f_X9_undo q v hi hs); (if uu_3.1 = "" then (uu_3.2.1, uu_3.2.2.1, uu_3.2.2.2.1, uu_3.2.2.2.2) else (if (f_X9_undo q v hi hs).1 = "java/lang/IllegalStateException" then ((-900001 : Int32), v, hi, hs) else (0, v, hi, hs)))) := rfl
  have hok : (ok_X9_undo q v hi hs ∧ (let uu_3 : String × Int32 × StV × HiV × (Nat → StV) := (f_X9_undo q v hi hs); (if uu_3.1 = "" then True else (if (f_X9_undo q v hi hs).1 = "java/lang/IllegalStateException" then True else False)))) := hok
  refine lv_aload_n hx hb dL_undo_0 rfl (lv_at hl 0 rfl) ?_
  have k_1 := hok.1
  have hok := hok.2
  refine xw_V (own := RL) (cs := [[(qh0, .inr (11, [.ref (va 0), .ref q_snapshot, .int q.1, .ref hih0, .ref q_program, .ref q_notice, .int q.2.1, .int q.2.2]))], wSt G va v, [(hih0, .inr (7, [.int hi.1, .int hi.2, .ref hsh]))], wHs G hsh hsa hs]) (rs := []) (As := []) (rest := []) (c_X9_undoS l hlf G qh0 q_snapshot q_program q_notice va hih0 hsh hsa s.heap.size q v hi hs k_1) ⟨hx, hb, hml, hown, hts⟩ g_L_88 hdv_X9_undo hK hST hS hP hD hA [0, 1, 2, 3] [] rfl rfl rfl (k0 := 0) rfl rfl rfl ⟨Nat.le_of_ble_eq_true rfl, Nat.le_of_ble_eq_true rfl⟩ ⟨Nat.le_of_ble_eq_true rfl, Nat.le_of_ble_eq_true rfl⟩ rfl hl.1 rfl (Nat.le_of_ble_eq_true rfl) dL_undo_1 (fun E ce q9 H locs hE hP hS h3 h4 h5 => ?_) (fun uu_3 H locs huu hP hD hS => ?_)
  rotate_left
  obtain ⟨huu, b_2⟩ := huu
  rw [← huu] at b_2
  have euu_3 := huu
  have hP : va_P G.1 vwCl (fl [[(qh0, .inr (11, [.ref (va 0), .ref q_snapshot, .int q.1, .ref hih0, .ref q_program, .ref q_notice, .int q.2.1, .int q.2.2]))], wSt G va uu_3.2.2.1, [(hih0, .inr (7, [.int uu_3.2.2.2.1.1, .int uu_3.2.2.2.1.2, .ref hsh]))], wHs G hsh hsa uu_3.2.2.2.2]) H := hP
  have hD : va_D A (fl [[(qh0, .inr (11, [.ref (va 0), .ref q_snapshot, .int q.1, .ref hih0, .ref q_program, .ref q_notice, .int q.2.1, .int q.2.2]))], wSt G va uu_3.2.2.1, [(hih0, .inr (7, [.int uu_3.2.2.2.1.1, .int uu_3.2.2.2.1.2, .ref hsh]))], wHs G hsh hsa uu_3.2.2.2.2]) := hD
  refine W.eq (g2 := F0 m 4 ls [.int uu_3.2.1]) rfl ?_
  have hE := b_2.1
  have hF : f_L_undo q v hi hs = (if uu_3.1 = "" then (uu_3.2.1, uu_3.2.2.1, uu_3.2.2.2.1, uu_3.2.2.2.2) else (if (f_X9_undo q v hi hs).1 = "java/lang/IllegalStateException" then ((-900001 : Int32), v, hi, hs) else (0, v, hi, hs))) := by subst euu_3; exact hF
  have hF := hF.trans (if_pos hE)
  have hok : (if uu_3.1 = "" then True else (if (f_X9_undo q v hi hs).1 = "java/lang/IllegalStateException" then True else False)) := by subst euu_3; exact hok
  have hok := Eq.mp (if_pos hE) hok
  exact w_ret (u := (uu_3.2.1, uu_3.2.2.1, uu_3.2.2.2.1, uu_3.2.2.2.2)) hx hb hr hlk rfl hS rfl hF.symm hP hD (Nat.le_of_ble_eq_true rfl) (Nat.le_of_ble_eq_true rfl) dL_undo_4
  have hF := hF.trans (if_neg (fun e => hE.2 (hE.1.trans e)))
  have hok := Eq.mp (if_neg (fun e => hE.2 (hE.1.trans e))) hok
  by_cases c_4 : (f_X9_undo q v hi hs).1 = "java/lang/IllegalStateException"
  · have hF := hF.trans (if_pos c_4)
    have hok := Eq.mp (if_pos c_4) hok
    have hEE : E = "java/lang/IllegalStateException" := hE.1.trans c_4
    subst hEE
    refine vx_catch (own := RL) (name := "java/lang/IllegalStateException") hown [] (⟨0, 4, 5, 18⟩ : ExceptionTableEntry) [] (hxt.trans rfl) (fun z hz => nomatch hz) (by decide) (by decide) (hts _ u_583) (va_tabs rfl rfl (hST.2.2.2.2.2.2.2.1 _ cst_IllegalStateException)) h3 h4 h5 ?_
    refine W.eq (g2 := F0 m 5 ls [.ref q9]) rfl ?_
    refine lv_astore_n (lv' := [(1, .ref q9), (0, .ref qh0)]) hx hb dL_undo_5 rfl hl (by decide) rfl (fun ls hl => ?_)
    refine lv_ldc hx hb hown (hts _ u_704) dL_undo_6 ?_
    exact w_ret (u := ((-900001 : Int32), v, hi, hs)) hx hb hr hlk rfl hS rfl hF.symm hP hD (Nat.le_of_ble_eq_true rfl) (Nat.le_of_ble_eq_true rfl) dL_undo_8
  · have hF := hF.trans (if_neg c_4)
    have hok := Eq.mp (if_neg c_4) hok
    exact hok.elim
theorem dL_restore_0 : decode cL_restore 0 = .ok (.aload_n 0, 1) := by decide +kernel
theorem dL_restore_1 : decode cL_restore 1 = .ok (.invokevirtual 91, 3) := by decide +kernel
theorem u_904 : Cond.methodLink RL 91 yX9_restore ∈ UW := uw 904 (by decide +kernel) rfl
theorem u_905 : Cond.instanceMethod yX9_restore ∈ UW := uw 905 (by decide +kernel) rfl
theorem u_906 : Cond.selects RX9 yX9_restore yX9_restore ∈ UW := uw 906 (by decide +kernel) rfl
theorem u_907 : Cond.code yX9_restore cX9_restore 1 (some .int) ∈ UW := uw 907 (by decide +kernel) rfl
theorem g_L_91 : GoodIn UW (wsV RL 91 RX9 yX9_restore (wsU yX9_restore cX9_restore 1 (some .int))) := gV u_904 u_905 u_906 u_21 u_907
theorem hdv_X9_restore : yX9_restore.cls = RX9 ∧ yX9_restore.cls ≠ "java/lang/invoke/MethodHandle" ∧ yX9_restore.cls ≠ "java/lang/invoke/VarHandle" ∧ (parseMethodDescriptor yX9_restore.desc).map (fun d => d.parameters.length) = some 0 := by decide +kernel
theorem dL_restore_4 : decode cL_restore 4 = .ok (.ireturn, 1) := by decide +kernel
theorem dL_restore_5 : decode cL_restore 5 = .ok (.astore_n 1, 1) := by decide +kernel
theorem dL_restore_6 : decode cL_restore 6 = .ok (.ldc 17, 2) := by decide +kernel
theorem dL_restore_8 : decode cL_restore 8 = .ok (.ireturn, 1) := by decide +kernel
set_option maxHeartbeats 8000000 in
set_option maxRecDepth 100000 in
set_option linter.constructorNameAsVariable false in
theorem c_L_restore (l : Launch) (hlf : l.stackTraces = false) (G : GG) (qh0 : Nat) (q_program : Nat) (q_notice : Nat) (va : Nat → Nat) (oa : Nat → Nat) (hih0 : Nat) (hi_rows : Nat) (sz : Nat) (q : McV) (v : StV) (o : StV) (hi : HiV) (hok : ok_L_restore q v o hi) : wMetH l yL_restore cL_restore 2 (some .int) [(0, 4, 5, 18)] 9 1 6 G (fl [[(qh0, .inr (11, [.ref (va 0), .ref (oa 0), .int q.1, .ref hih0, .ref q_program, .ref q_notice, .int q.2.1, .int q.2.2]))], wSt G va v, wSt G oa o, [(hih0, .inr (7, [.int hi.1, .int hi.2, .ref hi_rows]))]]) [.ref qh0] sz (fun u : Int32 × StV × HiV => some (.int u.1)) (fun u : Int32 × StV × HiV => u = f_L_restore q v o hi) (fun u : Int32 × StV × HiV => fl [[(qh0, .inr (11, [.ref (va 0), .ref (oa 0), .int q.1, .ref hih0, .ref q_program, .ref q_notice, .int q.2.1, .int q.2.2]))], wSt G va u.2.1, wSt G oa o, [(hih0, .inr (7, [.int u.2.2.1, .int u.2.2.2, .ref hi_rows]))]]) := by
  refine w_startH (by decide +kernel) (Nat.le_of_ble_eq_true rfl) ?_
  intro p e s m below meth c A hx hb hr hml hts hown hlk hin hxt hP hD hA hK hST ls hl
  have hS : va_S A s.heap s.heap [] := va_S.rf
  have hown : s.vm.findClass RL = some m.cls := hown
  have hl : lv_has ls 2 [(0, .ref qh0)] := hl
  have hF : f_L_restore q v o hi = (let uu_2 : String × Int32 × StV × HiV := (f_X9_restore q v o hi); (if uu_2.1 = "" then (uu_2.2.1, uu_2.2.2.1, uu_2.2.2.2) else (if (f_X9_restore q v o hi).1 = "java/lang/IllegalStateException" then ((-900001 : Int32), v, hi) else (0, v, hi)))) := rfl
  have hok : (let uu_2 : String × Int32 × StV × HiV := (f_X9_restore q v o hi); (if uu_2.1 = "" then True else (if (f_X9_restore q v o hi).1 = "java/lang/IllegalStateException" then True else False))) := hok
  refine lv_aload_n hx hb dL_restore_0 rfl (lv_at hl 0 rfl) ?_
  refine xw_V (own := RL) (cs := [[(qh0, .inr (11, [.ref (va 0), .ref (oa 0), .int q.1, .ref hih0, .ref q_program, .ref q_notice, .int q.2.1, .int q.2.2]))], wSt G va v, wSt G oa o, [(hih0, .inr (7, [.int hi.1, .int hi.2, .ref hi_rows]))]]) (rs := []) (As := []) (rest := []) (c_X9_restoreS l hlf G qh0 q_program q_notice va oa hih0 hi_rows s.heap.size q v o hi) ⟨hx, hb, hml, hown, hts⟩ g_L_91 hdv_X9_restore hK hST hS hP hD hA [0, 1, 2, 3] [] rfl rfl rfl (k0 := 0) rfl rfl rfl ⟨Nat.le_of_ble_eq_true rfl, Nat.le_of_ble_eq_true rfl⟩ ⟨Nat.le_of_ble_eq_true rfl, Nat.le_of_ble_eq_true rfl⟩ rfl hl.1 rfl (Nat.le_of_ble_eq_true rfl) dL_restore_1 (fun E ce q9 H locs hE hP hS h3 h4 h5 => ?_) (fun uu_2 H locs huu hP hD hS => ?_)
  rotate_left
  obtain ⟨huu, b_1⟩ := huu
  rw [← huu] at b_1
  have euu_2 := huu
  have hP : va_P G.1 vwCl (fl [[(qh0, .inr (11, [.ref (va 0), .ref (oa 0), .int q.1, .ref hih0, .ref q_program, .ref q_notice, .int q.2.1, .int q.2.2]))], wSt G va uu_2.2.2.1, wSt G oa o, [(hih0, .inr (7, [.int uu_2.2.2.2.1, .int uu_2.2.2.2.2, .ref hi_rows]))]]) H := hP
  have hD : va_D A (fl [[(qh0, .inr (11, [.ref (va 0), .ref (oa 0), .int q.1, .ref hih0, .ref q_program, .ref q_notice, .int q.2.1, .int q.2.2]))], wSt G va uu_2.2.2.1, wSt G oa o, [(hih0, .inr (7, [.int uu_2.2.2.2.1, .int uu_2.2.2.2.2, .ref hi_rows]))]]) := hD
  refine W.eq (g2 := F0 m 4 ls [.int uu_2.2.1]) rfl ?_
  have hE := b_1.1
  have hF : f_L_restore q v o hi = (if uu_2.1 = "" then (uu_2.2.1, uu_2.2.2.1, uu_2.2.2.2) else (if (f_X9_restore q v o hi).1 = "java/lang/IllegalStateException" then ((-900001 : Int32), v, hi) else (0, v, hi))) := by subst euu_2; exact hF
  have hF := hF.trans (if_pos hE)
  have hok : (if uu_2.1 = "" then True else (if (f_X9_restore q v o hi).1 = "java/lang/IllegalStateException" then True else False)) := by subst euu_2; exact hok
  have hok := Eq.mp (if_pos hE) hok
  exact w_ret (u := (uu_2.2.1, uu_2.2.2.1, uu_2.2.2.2)) hx hb hr hlk rfl hS rfl hF.symm hP hD (Nat.le_of_ble_eq_true rfl) (Nat.le_of_ble_eq_true rfl) dL_restore_4
  have hF := hF.trans (if_neg (fun e => hE.2 (hE.1.trans e)))
  have hok := Eq.mp (if_neg (fun e => hE.2 (hE.1.trans e))) hok
  by_cases c_3 : (f_X9_restore q v o hi).1 = "java/lang/IllegalStateException"
  · have hF := hF.trans (if_pos c_3)
    have hok := Eq.mp (if_pos c_3) hok
    have hEE : E = "java/lang/IllegalStateException" := hE.1.trans c_3
    subst hEE
    refine vx_catch (own := RL) (name := "java/lang/IllegalStateException") hown [] (⟨0, 4, 5, 18⟩ : ExceptionTableEntry) [] (hxt.trans rfl) (fun z hz => nomatch hz) (by decide) (by decide) (hts _ u_583) (va_tabs rfl rfl (hST.2.2.2.2.2.2.2.1 _ cst_IllegalStateException)) h3 h4 h5 ?_
    refine W.eq (g2 := F0 m 5 ls [.ref q9]) rfl ?_
    refine lv_astore_n (lv' := [(1, .ref q9), (0, .ref qh0)]) hx hb dL_restore_5 rfl hl (by decide) rfl (fun ls hl => ?_)
    refine lv_ldc hx hb hown (hts _ u_704) dL_restore_6 ?_
    exact w_ret (u := ((-900001 : Int32), v, hi)) hx hb hr hlk rfl hS rfl hF.symm hP hD (Nat.le_of_ble_eq_true rfl) (Nat.le_of_ble_eq_true rfl) dL_restore_8
  · have hF := hF.trans (if_neg c_3)
    have hok := Eq.mp (if_neg c_3) hok
    exact hok.elim
theorem dL_liftException_0 : decode cL_liftException 0 = .ok (.aload_n 0, 1) := by decide +kernel
theorem dL_liftException_1 : decode cL_liftException 1 = .ok (.iload_n 1, 1) := by decide +kernel
theorem dL_liftException_2 : decode cL_liftException 2 = .ok (.iload_n 2, 1) := by decide +kernel
theorem dL_liftException_3 : decode cL_liftException 3 = .ok (.invokevirtual 94, 3) := by decide +kernel
theorem u_1219 : Cond.methodLink RL 94 yX9_liftException ∈ UW := uw 1219 (by decide +kernel) rfl
theorem u_1220 : Cond.instanceMethod yX9_liftException ∈ UW := uw 1220 (by decide +kernel) rfl
theorem u_1221 : Cond.selects RX9 yX9_liftException yX9_liftException ∈ UW := uw 1221 (by decide +kernel) rfl
theorem u_1222 : Cond.code yX9_liftException cX9_liftException 3 (some .boolean) ∈ UW := uw 1222 (by decide +kernel) rfl
theorem g_L_94 : GoodIn UW (wsV RL 94 RX9 yX9_liftException (wsU yX9_liftException cX9_liftException 3 (some .boolean))) := gV u_1219 u_1220 u_1221 u_21 u_1222
theorem hdv_X9_liftException : yX9_liftException.cls = RX9 ∧ yX9_liftException.cls ≠ "java/lang/invoke/MethodHandle" ∧ yX9_liftException.cls ≠ "java/lang/invoke/VarHandle" ∧ (parseMethodDescriptor yX9_liftException.desc).map (fun d => d.parameters.length) = some 2 := by decide +kernel
theorem dL_liftException_6 : decode cL_liftException 6 = .ok (.ifCond .eq 7, 3) := by decide +kernel
theorem dL_liftException_13 : decode cL_liftException 13 = .ok (.iconst 0, 1) := by decide +kernel
theorem dL_liftException_14 : decode cL_liftException 14 = .ok (.ireturn, 1) := by decide +kernel
theorem dL_liftException_9 : decode cL_liftException 9 = .ok (.iconst 1, 1) := by decide +kernel
theorem dL_liftException_10 : decode cL_liftException 10 = .ok (.goto 4, 3) := by decide +kernel
theorem dL_liftException_15 : decode cL_liftException 15 = .ok (.astore_n 3, 1) := by decide +kernel
theorem dL_liftException_16 : decode cL_liftException 16 = .ok (.ldc 17, 2) := by decide +kernel
theorem dL_liftException_18 : decode cL_liftException 18 = .ok (.ireturn, 1) := by decide +kernel
theorem dL_liftException_19 : decode cL_liftException 19 = .ok (.astore_n 3, 1) := by decide +kernel
theorem dL_liftException_20 : decode cL_liftException 20 = .ok (.ldc 20, 2) := by decide +kernel
theorem dL_liftException_22 : decode cL_liftException 22 = .ok (.ireturn, 1) := by decide +kernel
set_option maxHeartbeats 8000000 in
set_option maxRecDepth 100000 in
set_option linter.constructorNameAsVariable false in
theorem c_L_liftException (l : Launch) (hlf : l.stackTraces = false) (G : GG) (qh0 : Nat) (q_snapshot : Nat) (q_program : Nat) (q_notice : Nat) (va : Nat → Nat) (hih0 : Nat) (hsh : Nat) (hsa : Nat → Nat → Nat) (sz : Nat) (q : McV) (v : StV) (hi : HiV) (hs : Nat → StV) (dr : Int32) (dy : Int32) (hok : ok_L_liftException q v hi hs dr dy) : wMetH l yL_liftException cL_liftException 4 (some .int) [(0, 14, 15, 25), (0, 14, 19, 39)] 10 1 6 G (fl [[(qh0, .inr (11, [.ref (va 0), .ref q_snapshot, .int q.1, .ref hih0, .ref q_program, .ref q_notice, .int q.2.1, .int q.2.2]))], wSt G va v, [(hih0, .inr (7, [.int hi.1, .int hi.2, .ref hsh]))], wHs G hsh hsa hs]) [.ref qh0, .int dr, .int dy] sz (fun u : Int32 × StV × HiV × (Nat → StV) => some (.int u.1)) (fun u : Int32 × StV × HiV × (Nat → StV) => u = f_L_liftException q v hi hs dr dy) (fun u : Int32 × StV × HiV × (Nat → StV) => fl [[(qh0, .inr (11, [.ref (va 0), .ref q_snapshot, .int q.1, .ref hih0, .ref q_program, .ref q_notice, .int q.2.1, .int q.2.2]))], wSt G va u.2.1, [(hih0, .inr (7, [.int u.2.2.1.1, .int u.2.2.1.2, .ref hsh]))], wHs G hsh hsa u.2.2.2]) := by
  refine w_startH (by decide +kernel) (Nat.le_of_ble_eq_true rfl) ?_
  intro p e s m below meth c A hx hb hr hml hts hown hlk hin hxt hP hD hA hK hST ls hl
  have hS : va_S A s.heap s.heap [] := va_S.rf
  have hown : s.vm.findClass RL = some m.cls := hown
  have hl : lv_has ls 4 [(0, .ref qh0), (1, .int dr), (2, .int dy)] := hl
  have hF : f_L_liftException q v hi hs dr dy = (let uu_3 : String × Int32 × StV × HiV × (Nat → StV) := (f_X9_liftException q v hi hs dr dy); (if uu_3.1 = "" then (if uu_3.2.1 = (0 : Int32) then ((0 : Int32), uu_3.2.2.1, uu_3.2.2.2.1, uu_3.2.2.2.2) else ((1 : Int32), uu_3.2.2.1, uu_3.2.2.2.1, uu_3.2.2.2.2)) else (if (f_X9_liftException q v hi hs dr dy).1 = "java/lang/IndexOutOfBoundsException" then ((-900001 : Int32), v, hi, hs) else (if (f_X9_liftException q v hi hs dr dy).1 = "java/util/NoSuchElementException" then ((-900002 : Int32), v, hi, hs) else (0, v, hi, hs))))) := rfl
  have hok : (nx9 hi.2 ∧ (let uu_3 : String × Int32 × StV × HiV × (Nat → StV) := (f_X9_liftException q v hi hs dr dy); (if uu_3.1 = "" then True else (if (f_X9_liftException q v hi hs dr dy).1 = "java/lang/IndexOutOfBoundsException" then True else (if (f_X9_liftException q v hi hs dr dy).1 = "java/util/NoSuchElementException" then True else False))))) := hok
  refine lv_aload_n hx hb dL_liftException_0 rfl (lv_at hl 0 rfl) ?_
  refine lv_iload_n hx hb dL_liftException_1 rfl (lv_at hl 1 rfl) ?_
  refine lv_iload_n hx hb dL_liftException_2 rfl (lv_at hl 2 rfl) ?_
  have k_1 := hok.1
  have hok := hok.2
  refine xw_V (own := RL) (cs := [[(qh0, .inr (11, [.ref (va 0), .ref q_snapshot, .int q.1, .ref hih0, .ref q_program, .ref q_notice, .int q.2.1, .int q.2.2]))], wSt G va v, [(hih0, .inr (7, [.int hi.1, .int hi.2, .ref hsh]))], wHs G hsh hsa hs]) (rs := []) (As := [.int dr, .int dy]) (rest := []) (c_X9_liftExceptionS l hlf G qh0 q_snapshot q_program q_notice va hih0 hsh hsa s.heap.size q v hi hs dr dy k_1) ⟨hx, hb, hml, hown, hts⟩ g_L_94 hdv_X9_liftException hK hST hS hP hD hA [0, 1, 2, 3] [] rfl rfl rfl (k0 := 0) rfl rfl rfl ⟨Nat.le_of_ble_eq_true rfl, Nat.le_of_ble_eq_true rfl⟩ ⟨Nat.le_of_ble_eq_true rfl, Nat.le_of_ble_eq_true rfl⟩ rfl hl.1 rfl (Nat.le_of_ble_eq_true rfl) dL_liftException_3 (fun E ce q9 H locs hE hP hS h3 h4 h5 => ?_) (fun uu_3 H locs huu hP hD hS => ?_)
  rotate_left
  obtain ⟨huu, b_2⟩ := huu
  rw [← huu] at b_2
  have euu_3 := huu
  have hP : va_P G.1 vwCl (fl [[(qh0, .inr (11, [.ref (va 0), .ref q_snapshot, .int q.1, .ref hih0, .ref q_program, .ref q_notice, .int q.2.1, .int q.2.2]))], wSt G va uu_3.2.2.1, [(hih0, .inr (7, [.int uu_3.2.2.2.1.1, .int uu_3.2.2.2.1.2, .ref hsh]))], wHs G hsh hsa uu_3.2.2.2.2]) H := hP
  have hD : va_D A (fl [[(qh0, .inr (11, [.ref (va 0), .ref q_snapshot, .int q.1, .ref hih0, .ref q_program, .ref q_notice, .int q.2.1, .int q.2.2]))], wSt G va uu_3.2.2.1, [(hih0, .inr (7, [.int uu_3.2.2.2.1.1, .int uu_3.2.2.2.1.2, .ref hsh]))], wHs G hsh hsa uu_3.2.2.2.2]) := hD
  refine W.eq (g2 := F0 m 6 ls [.int uu_3.2.1]) rfl ?_
  have hE := b_2.1
  have hF : f_L_liftException q v hi hs dr dy = (if uu_3.1 = "" then (if uu_3.2.1 = (0 : Int32) then ((0 : Int32), uu_3.2.2.1, uu_3.2.2.2.1, uu_3.2.2.2.2) else ((1 : Int32), uu_3.2.2.1, uu_3.2.2.2.1, uu_3.2.2.2.2)) else (if (f_X9_liftException q v hi hs dr dy).1 = "java/lang/IndexOutOfBoundsException" then ((-900001 : Int32), v, hi, hs) else (if (f_X9_liftException q v hi hs dr dy).1 = "java/util/NoSuchElementException" then ((-900002 : Int32), v, hi, hs) else (0, v, hi, hs)))) := by subst euu_3; exact hF
  have hF := hF.trans (if_pos hE)
  have hok : (if uu_3.1 = "" then True else (if (f_X9_liftException q v hi hs dr dy).1 = "java/lang/IndexOutOfBoundsException" then True else (if (f_X9_liftException q v hi hs dr dy).1 = "java/util/NoSuchElementException" then True else False))) := by subst euu_3; exact hok
  have hok := Eq.mp (if_pos hE) hok
  refine lv_if_eq (tgt := 13) hx hb dL_liftException_6 (by decide) (fun c_4 => ?_) (fun c_4 => ?_)
  · have hF := hF.trans (if_pos c_4)
    refine lv_iconst (v := (0 : Int32)) hx hb dL_liftException_13 (by decide) ?_
    exact w_ret (u := ((0 : Int32), uu_3.2.2.1, uu_3.2.2.2.1, uu_3.2.2.2.2)) hx hb hr hlk rfl hS rfl hF.symm hP hD (Nat.le_of_ble_eq_true rfl) (Nat.le_of_ble_eq_true rfl) dL_liftException_14
  · have hF := hF.trans (if_neg c_4)
    refine lv_iconst (v := (1 : Int32)) hx hb dL_liftException_9 (by decide) ?_
    refine lv_goto (tgt := 14) hx hb dL_liftException_10 (by decide) ?_
    exact w_ret (u := ((1 : Int32), uu_3.2.2.1, uu_3.2.2.2.1, uu_3.2.2.2.2)) hx hb hr hlk rfl hS rfl hF.symm hP hD (Nat.le_of_ble_eq_true rfl) (Nat.le_of_ble_eq_true rfl) dL_liftException_14
  have hF := hF.trans (if_neg (fun e => hE.2 (hE.1.trans e)))
  have hok := Eq.mp (if_neg (fun e => hE.2 (hE.1.trans e))) hok
  by_cases c_5 : (f_X9_liftException q v hi hs dr dy).1 = "java/lang/IndexOutOfBoundsException"
  · have hF := hF.trans (if_pos c_5)
    have hok := Eq.mp (if_pos c_5) hok
    have hEE : E = "java/lang/IndexOutOfBoundsException" := hE.1.trans c_5
    subst hEE
    refine vx_catch (own := RL) (name := "java/lang/IndexOutOfBoundsException") hown [] (⟨0, 14, 15, 25⟩ : ExceptionTableEntry) [(⟨0, 14, 19, 39⟩ : ExceptionTableEntry)] (hxt.trans rfl) (fun z hz => nomatch hz) (by decide) (by decide) (hts _ u_578) (va_tabs rfl rfl (hST.2.2.2.2.2.2.2.1 _ cst_IndexOutOfBoundsException)) h3 h4 h5 ?_
    refine W.eq (g2 := F0 m 15 ls [.ref q9]) rfl ?_
    refine lv_astore_n (lv' := [(3, .ref q9), (0, .ref qh0), (1, .int dr), (2, .int dy)]) hx hb dL_liftException_15 rfl hl (by decide) rfl (fun ls hl => ?_)
    refine lv_ldc hx hb hown (hts _ u_704) dL_liftException_16 ?_
    exact w_ret (u := ((-900001 : Int32), v, hi, hs)) hx hb hr hlk rfl hS rfl hF.symm hP hD (Nat.le_of_ble_eq_true rfl) (Nat.le_of_ble_eq_true rfl) dL_liftException_18
  · have hF := hF.trans (if_neg c_5)
    have hok := Eq.mp (if_neg c_5) hok
    by_cases c_6 : (f_X9_liftException q v hi hs dr dy).1 = "java/util/NoSuchElementException"
    · have hF := hF.trans (if_pos c_6)
      have hok := Eq.mp (if_pos c_6) hok
      have hEE : E = "java/util/NoSuchElementException" := hE.1.trans c_6
      subst hEE
      refine vx_catch (own := RL) (name := "java/util/NoSuchElementException") hown [(⟨0, 14, 15, 25⟩ : ExceptionTableEntry)] (⟨0, 14, 19, 39⟩ : ExceptionTableEntry) [] (hxt.trans rfl) (List.forall_mem_cons.mpr ⟨Or.inr ⟨by decide, "java/lang/IndexOutOfBoundsException", hts _ u_578, hST.2.2.2.2.2.2.2.2.1 ("java/util/NoSuchElementException", "java/lang/IndexOutOfBoundsException") (by decide +kernel)⟩, fun _ h => nomatch h⟩) (by decide) (by decide) (hts _ u_840) (va_tabs rfl rfl (hST.2.2.2.2.2.2.2.1 _ cst_NoSuchElementException)) h3 h4 h5 ?_
      refine W.eq (g2 := F0 m 19 ls [.ref q9]) rfl ?_
      refine lv_astore_n (lv' := [(3, .ref q9), (0, .ref qh0), (1, .int dr), (2, .int dy)]) hx hb dL_liftException_19 rfl hl (by decide) rfl (fun ls hl => ?_)
      refine lv_ldc hx hb hown (hts _ u_705) dL_liftException_20 ?_
      exact w_ret (u := ((-900002 : Int32), v, hi, hs)) hx hb hr hlk rfl hS rfl hF.symm hP hD (Nat.le_of_ble_eq_true rfl) (Nat.le_of_ble_eq_true rfl) dL_liftException_22
    · have hF := hF.trans (if_neg c_6)
      have hok := Eq.mp (if_neg c_6) hok
      exact hok.elim
