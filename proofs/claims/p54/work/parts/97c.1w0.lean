theorem dL_addDoor_0 : decode cL_addDoor 0 = .ok (.aload_n 0, 1) := by decide +kernel
theorem dL_addDoor_1 : decode cL_addDoor 1 = .ok (.iload_n 1, 1) := by decide +kernel
theorem dL_addDoor_2 : decode cL_addDoor 2 = .ok (.iload_n 2, 1) := by decide +kernel
theorem dL_addDoor_3 : decode cL_addDoor 3 = .ok (.iload_n 3, 1) := by decide +kernel
theorem dL_addDoor_4 : decode cL_addDoor 4 = .ok (.iload 4, 2) := by decide +kernel
theorem dL_addDoor_6 : decode cL_addDoor 6 = .ok (.invokevirtual 9, 3) := by decide +kernel
theorem u_1125 : Cond.methodLink RL 9 yX9_addDoor ∈ UW := uw 1125 (by decide +kernel) rfl
theorem u_1126 : Cond.instanceMethod yX9_addDoor ∈ UW := uw 1126 (by decide +kernel) rfl
theorem u_1127 : Cond.selects RX9 yX9_addDoor yX9_addDoor ∈ UW := uw 1127 (by decide +kernel) rfl
theorem u_1128 : Cond.code yX9_addDoor cX9_addDoor 5 (some .int) ∈ UW := uw 1128 (by decide +kernel) rfl
theorem g_L_9 : GoodIn UW (wsV RL 9 RX9 yX9_addDoor (wsU yX9_addDoor cX9_addDoor 5 (some .int))) := gV u_1125 u_1126 u_1127 u_21 u_1128
theorem hdv_X9_addDoor : yX9_addDoor.cls = RX9 ∧ yX9_addDoor.cls ≠ "java/lang/invoke/MethodHandle" ∧ yX9_addDoor.cls ≠ "java/lang/invoke/VarHandle" ∧ (parseMethodDescriptor yX9_addDoor.desc).map (fun d => d.parameters.length) = some 4 := by decide +kernel
theorem dL_addDoor_9 : decode cL_addDoor 9 = .ok (.ireturn, 1) := by decide +kernel
theorem u_581 : Cond.classLink RL 15 "java/lang/IllegalArgumentException" ∈ UW := uw 581 (by decide +kernel) rfl
theorem cst_IllegalArgumentException : Cond.castable "java/lang/IllegalArgumentException" "java/lang/IllegalArgumentException" ∈ CW := cwm 382 (by decide +kernel) rfl
theorem dL_addDoor_10 : decode cL_addDoor 10 = .ok (.astore 5, 2) := by decide +kernel
theorem dL_addDoor_12 : decode cL_addDoor 12 = .ok (.ldc 17, 2) := by decide +kernel
theorem u_704 : Cond.constant RL 17 (-900001) ∈ UW := uw 704 (by decide +kernel) rfl
theorem dL_addDoor_14 : decode cL_addDoor 14 = .ok (.ireturn, 1) := by decide +kernel
theorem u_583 : Cond.classLink RL 18 "java/lang/IllegalStateException" ∈ UW := uw 583 (by decide +kernel) rfl
theorem cst_IllegalStateException : Cond.castable "java/lang/IllegalStateException" "java/lang/IllegalStateException" ∈ CW := cwm 633 (by decide +kernel) rfl
theorem dL_addDoor_15 : decode cL_addDoor 15 = .ok (.astore 5, 2) := by decide +kernel
theorem dL_addDoor_17 : decode cL_addDoor 17 = .ok (.ldc 20, 2) := by decide +kernel
theorem u_705 : Cond.constant RL 20 (-900002) ∈ UW := uw 705 (by decide +kernel) rfl
theorem dL_addDoor_19 : decode cL_addDoor 19 = .ok (.ireturn, 1) := by decide +kernel
set_option maxHeartbeats 8000000 in
set_option maxRecDepth 100000 in
set_option linter.constructorNameAsVariable false in
theorem c_L_addDoor (l : Launch) (hlf : l.stackTraces = false) (G : GG) (qh0 : Nat) (q_snapshot : Nat) (q_program : Nat) (q_notice : Nat) (va : Nat → Nat) (hih0 : Nat) (hsh : Nat) (hsa : Nat → Nat → Nat) (sz : Nat) (q : McV) (v : StV) (hi : HiV) (hs : Nat → StV) (ph : Int32) (fh : Int32) (lh : Int32) (ke : Int32) (hok : ok_L_addDoor q v hi hs ph fh lh ke) : wMetH l yL_addDoor cL_addDoor 6 (some .int) [(0, 9, 10, 15), (0, 9, 15, 18)] 10 1 6 G (fl [[(qh0, .inr (11, [.ref (va 0), .ref q_snapshot, .int q.1, .ref hih0, .ref q_program, .ref q_notice, .int q.2.1, .int q.2.2]))], wSt G va v, [(hih0, .inr (7, [.int hi.1, .int hi.2, .ref hsh]))], wHs G hsh hsa hs]) [.ref qh0, .int ph, .int fh, .int lh, .int ke] sz (fun u : Int32 × StV × HiV × (Nat → StV) => some (.int u.1)) (fun u : Int32 × StV × HiV × (Nat → StV) => u = f_L_addDoor q v hi hs ph fh lh ke) (fun u : Int32 × StV × HiV × (Nat → StV) => fl [[(qh0, .inr (11, [.ref (va 0), .ref q_snapshot, .int q.1, .ref hih0, .ref q_program, .ref q_notice, .int q.2.1, .int q.2.2]))], wSt G va u.2.1, [(hih0, .inr (7, [.int u.2.2.1.1, .int u.2.2.1.2, .ref hsh]))], wHs G hsh hsa u.2.2.2]) := by
  refine w_startH (by decide +kernel) (Nat.le_of_ble_eq_true rfl) ?_
  intro p e s m below meth c A hx hb hr hml hts hown hlk hin hxt hP hD hA hK hST ls hl
  have hS : va_S A s.heap s.heap [] := va_S.rf
  have hown : s.vm.findClass RL = some m.cls := hown
  have hl : lv_has ls 6 [(0, .ref qh0), (1, .int ph), (2, .int fh), (3, .int lh), (4, .int ke)] := hl
  have hF : f_L_addDoor q v hi hs ph fh lh ke = (let uu_3 : String × Int32 × StV × HiV × (Nat → StV) := (f_X9_addDoor q v hi hs ph fh lh ke); (if uu_3.1 = "" then (uu_3.2.1, uu_3.2.2.1, uu_3.2.2.2.1, uu_3.2.2.2.2) else (if (f_X9_addDoor q v hi hs ph fh lh ke).1 = "java/lang/IllegalArgumentException" then ((-900001 : Int32), v, hi, hs) else (if (f_X9_addDoor q v hi hs ph fh lh ke).1 = "java/lang/IllegalStateException" then ((-900002 : Int32), v, hi, hs) else (0, v, hi, hs))))) := rfl
  have hok : (nx9 hi.2 ∧ (let uu_3 : String × Int32 × StV × HiV × (Nat → StV) := (f_X9_addDoor q v hi hs ph fh lh ke); (if uu_3.1 = "" then True else (if (f_X9_addDoor q v hi hs ph fh lh ke).1 = "java/lang/IllegalArgumentException" then True else (if (f_X9_addDoor q v hi hs ph fh lh ke).1 = "java/lang/IllegalStateException" then True else False))))) := hok
  refine lv_aload_n hx hb dL_addDoor_0 rfl (lv_at hl 0 rfl) ?_
  refine lv_iload_n hx hb dL_addDoor_1 rfl (lv_at hl 1 rfl) ?_
  refine lv_iload_n hx hb dL_addDoor_2 rfl (lv_at hl 2 rfl) ?_
  refine lv_iload_n hx hb dL_addDoor_3 rfl (lv_at hl 3 rfl) ?_
  refine lv_iload hx hb dL_addDoor_4 (lv_at hl 4 rfl) ?_
  have k_1 := hok.1
  have hok := hok.2
  refine xw_V (own := RL) (cs := [[(qh0, .inr (11, [.ref (va 0), .ref q_snapshot, .int q.1, .ref hih0, .ref q_program, .ref q_notice, .int q.2.1, .int q.2.2]))], wSt G va v, [(hih0, .inr (7, [.int hi.1, .int hi.2, .ref hsh]))], wHs G hsh hsa hs]) (rs := []) (As := [.int ph, .int fh, .int lh, .int ke]) (rest := []) (c_X9_addDoorS l hlf G qh0 q_snapshot q_program q_notice va hih0 hsh hsa s.heap.size q v hi hs ph fh lh ke k_1) ⟨hx, hb, hml, hown, hts⟩ g_L_9 hdv_X9_addDoor hK hST hS hP hD hA [0, 1, 2, 3] [] rfl rfl rfl (k0 := 0) rfl rfl rfl ⟨Nat.le_of_ble_eq_true rfl, Nat.le_of_ble_eq_true rfl⟩ ⟨Nat.le_of_ble_eq_true rfl, Nat.le_of_ble_eq_true rfl⟩ rfl hl.1 rfl (Nat.le_of_ble_eq_true rfl) dL_addDoor_6 (fun E ce q9 H locs hE hP hS h3 h4 h5 => ?_) (fun uu_3 H locs huu hP hD hS => ?_)
  rotate_left
  obtain ⟨huu, b_2⟩ := huu
  rw [← huu] at b_2
  have euu_3 := huu
  have hP : va_P G.1 vwCl (fl [[(qh0, .inr (11, [.ref (va 0), .ref q_snapshot, .int q.1, .ref hih0, .ref q_program, .ref q_notice, .int q.2.1, .int q.2.2]))], wSt G va uu_3.2.2.1, [(hih0, .inr (7, [.int uu_3.2.2.2.1.1, .int uu_3.2.2.2.1.2, .ref hsh]))], wHs G hsh hsa uu_3.2.2.2.2]) H := hP
  have hD : va_D A (fl [[(qh0, .inr (11, [.ref (va 0), .ref q_snapshot, .int q.1, .ref hih0, .ref q_program, .ref q_notice, .int q.2.1, .int q.2.2]))], wSt G va uu_3.2.2.1, [(hih0, .inr (7, [.int uu_3.2.2.2.1.1, .int uu_3.2.2.2.1.2, .ref hsh]))], wHs G hsh hsa uu_3.2.2.2.2]) := hD
  refine W.eq (g2 := F0 m 9 ls [.int uu_3.2.1]) rfl ?_
  have hE := b_2.1
  have hF : f_L_addDoor q v hi hs ph fh lh ke = (if uu_3.1 = "" then (uu_3.2.1, uu_3.2.2.1, uu_3.2.2.2.1, uu_3.2.2.2.2) else (if (f_X9_addDoor q v hi hs ph fh lh ke).1 = "java/lang/IllegalArgumentException" then ((-900001 : Int32), v, hi, hs) else (if (f_X9_addDoor q v hi hs ph fh lh ke).1 = "java/lang/IllegalStateException" then ((-900002 : Int32), v, hi, hs) else (0, v, hi, hs)))) := by subst euu_3; exact hF
  have hF := hF.trans (if_pos hE)
  have hok : (if uu_3.1 = "" then True else (if (f_X9_addDoor q v hi hs ph fh lh ke).1 = "java/lang/IllegalArgumentException" then True else (if (f_X9_addDoor q v hi hs ph fh lh ke).1 = "java/lang/IllegalStateException" then True else False))) := by subst euu_3; exact hok
  have hok := Eq.mp (if_pos hE) hok
  exact w_ret (u := (uu_3.2.1, uu_3.2.2.1, uu_3.2.2.2.1, uu_3.2.2.2.2)) hx hb hr hlk rfl hS rfl hF.symm hP hD (Nat.le_of_ble_eq_true rfl) (Nat.le_of_ble_eq_true rfl) dL_addDoor_9
  have hF := hF.trans (if_neg (fun e => hE.2 (hE.1.trans e)))
  have hok := Eq.mp (if_neg (fun e => hE.2 (hE.1.trans e))) hok
  by_cases c_4 : (f_X9_addDoor q v hi hs ph fh lh ke).1 = "java/lang/IllegalArgumentException"
  · have hF := hF.trans (if_pos c_4)
    have hok := Eq.mp (if_pos c_4) hok
    have hEE : E = "java/lang/IllegalArgumentException" := hE.1.trans c_4
    subst hEE
    refine vx_catch (own := RL) (name := "java/lang/IllegalArgumentException") hown [] (⟨0, 9, 10, 15⟩ : ExceptionTableEntry) [(⟨0, 9, 15, 18⟩ : ExceptionTableEntry)] (hxt.trans rfl) (fun z hz => nomatch hz) (by decide) (by decide) (hts _ u_581) (va_tabs rfl rfl (hST.2.2.2.2.2.2.2.1 _ cst_IllegalArgumentException)) h3 h4 h5 ?_
    refine W.eq (g2 := F0 m 10 ls [.ref q9]) rfl ?_
    refine lv_astore (lv' := [(5, .ref q9), (0, .ref qh0), (1, .int ph), (2, .int fh), (3, .int lh), (4, .int ke)]) hx hb dL_addDoor_10 hl (by decide) rfl (fun ls hl => ?_)
    refine lv_ldc hx hb hown (hts _ u_704) dL_addDoor_12 ?_
    exact w_ret (u := ((-900001 : Int32), v, hi, hs)) hx hb hr hlk rfl hS rfl hF.symm hP hD (Nat.le_of_ble_eq_true rfl) (Nat.le_of_ble_eq_true rfl) dL_addDoor_14
  · have hF := hF.trans (if_neg c_4)
    have hok := Eq.mp (if_neg c_4) hok
    by_cases c_5 : (f_X9_addDoor q v hi hs ph fh lh ke).1 = "java/lang/IllegalStateException"
    · have hF := hF.trans (if_pos c_5)
      have hok := Eq.mp (if_pos c_5) hok
      have hEE : E = "java/lang/IllegalStateException" := hE.1.trans c_5
      subst hEE
      refine vx_catch (own := RL) (name := "java/lang/IllegalStateException") hown [(⟨0, 9, 10, 15⟩ : ExceptionTableEntry)] (⟨0, 9, 15, 18⟩ : ExceptionTableEntry) [] (hxt.trans rfl) (List.forall_mem_cons.mpr ⟨Or.inr ⟨by decide, "java/lang/IllegalArgumentException", hts _ u_581, hST.2.2.2.2.2.2.2.2.1 ("java/lang/IllegalStateException", "java/lang/IllegalArgumentException") (by decide +kernel)⟩, fun _ h => nomatch h⟩) (by decide) (by decide) (hts _ u_583) (va_tabs rfl rfl (hST.2.2.2.2.2.2.2.1 _ cst_IllegalStateException)) h3 h4 h5 ?_
      refine W.eq (g2 := F0 m 15 ls [.ref q9]) rfl ?_
      refine lv_astore (lv' := [(5, .ref q9), (0, .ref qh0), (1, .int ph), (2, .int fh), (3, .int lh), (4, .int ke)]) hx hb dL_addDoor_15 hl (by decide) rfl (fun ls hl => ?_)
      refine lv_ldc hx hb hown (hts _ u_705) dL_addDoor_17 ?_
      exact w_ret (u := ((-900002 : Int32), v, hi, hs)) hx hb hr hlk rfl hS rfl hF.symm hP hD (Nat.le_of_ble_eq_true rfl) (Nat.le_of_ble_eq_true rfl) dL_addDoor_19
    · have hF := hF.trans (if_neg c_5)
      have hok := Eq.mp (if_neg c_5) hok
      exact hok.elim
theorem dL_setRule_0 : decode cL_setRule 0 = .ok (.aload_n 0, 1) := by decide +kernel
theorem dL_setRule_1 : decode cL_setRule 1 = .ok (.iload_n 1, 1) := by decide +kernel
theorem dL_setRule_2 : decode cL_setRule 2 = .ok (.iload_n 2, 1) := by decide +kernel
theorem dL_setRule_3 : decode cL_setRule 3 = .ok (.iload_n 3, 1) := by decide +kernel
theorem dL_setRule_4 : decode cL_setRule 4 = .ok (.iload 4, 2) := by decide +kernel
theorem dL_setRule_6 : decode cL_setRule 6 = .ok (.iload 5, 2) := by decide +kernel
theorem dL_setRule_8 : decode cL_setRule 8 = .ok (.invokevirtual 21, 3) := by decide +kernel
theorem u_1182 : Cond.methodLink RL 21 yX9_setRule ∈ UW := uw 1182 (by decide +kernel) rfl
theorem u_1183 : Cond.instanceMethod yX9_setRule ∈ UW := uw 1183 (by decide +kernel) rfl
theorem u_1184 : Cond.selects RX9 yX9_setRule yX9_setRule ∈ UW := uw 1184 (by decide +kernel) rfl
theorem u_1185 : Cond.code yX9_setRule cX9_setRule 7 (some .int) ∈ UW := uw 1185 (by decide +kernel) rfl
theorem g_L_21 : GoodIn UW (wsV RL 21 RX9 yX9_setRule (wsU yX9_setRule cX9_setRule 7 (some .int))) := gV u_1182 u_1183 u_1184 u_21 u_1185
theorem hdv_X9_setRule : yX9_setRule.cls = RX9 ∧ yX9_setRule.cls ≠ "java/lang/invoke/MethodHandle" ∧ yX9_setRule.cls ≠ "java/lang/invoke/VarHandle" ∧ (parseMethodDescriptor yX9_setRule.desc).map (fun d => d.parameters.length) = some 5 := by decide +kernel
theorem dL_setRule_11 : decode cL_setRule 11 = .ok (.ireturn, 1) := by decide +kernel
theorem u_578 : Cond.classLink RL 25 "java/lang/IndexOutOfBoundsException" ∈ UW := uw 578 (by decide +kernel) rfl
theorem cst_IndexOutOfBoundsException : Cond.castable "java/lang/IndexOutOfBoundsException" "java/lang/IndexOutOfBoundsException" ∈ CW := cwm 81 (by decide +kernel) rfl
theorem dL_setRule_12 : decode cL_setRule 12 = .ok (.astore 6, 2) := by decide +kernel
theorem dL_setRule_14 : decode cL_setRule 14 = .ok (.ldc 17, 2) := by decide +kernel
theorem dL_setRule_16 : decode cL_setRule 16 = .ok (.ireturn, 1) := by decide +kernel
theorem dL_setRule_17 : decode cL_setRule 17 = .ok (.astore 6, 2) := by decide +kernel
theorem dL_setRule_19 : decode cL_setRule 19 = .ok (.ldc 20, 2) := by decide +kernel
theorem dL_setRule_21 : decode cL_setRule 21 = .ok (.ireturn, 1) := by decide +kernel
set_option maxHeartbeats 8000000 in
set_option maxRecDepth 100000 in
set_option linter.constructorNameAsVariable false in
theorem c_L_setRule (l : Launch) (hlf : l.stackTraces = false) (G : GG) (qh0 : Nat) (q_snapshot : Nat) (q_program : Nat) (q_notice : Nat) (va : Nat → Nat) (hih0 : Nat) (hsh : Nat) (hsa : Nat → Nat → Nat) (sz : Nat) (q : McV) (v : StV) (hi : HiV) (hs : Nat → StV) (dr : Int32) (ph : Int32) (fh : Int32) (lh : Int32) (ke : Int32) (hok : ok_L_setRule q v hi hs dr ph fh lh ke) : wMetH l yL_setRule cL_setRule 7 (some .int) [(0, 11, 12, 25), (0, 11, 17, 15)] 10 2 12 G (fl [[(qh0, .inr (11, [.ref (va 0), .ref q_snapshot, .int q.1, .ref hih0, .ref q_program, .ref q_notice, .int q.2.1, .int q.2.2]))], wSt G va v, [(hih0, .inr (7, [.int hi.1, .int hi.2, .ref hsh]))], wHs G hsh hsa hs]) [.ref qh0, .int dr, .int ph, .int fh, .int lh, .int ke] sz (fun u : Int32 × StV × HiV × (Nat → StV) => some (.int u.1)) (fun u : Int32 × StV × HiV × (Nat → StV) => u = f_L_setRule q v hi hs dr ph fh lh ke) (fun u : Int32 × StV × HiV × (Nat → StV) => fl [[(qh0, .inr (11, [.ref (va 0), .ref q_snapshot, .int q.1, .ref hih0, .ref q_program, .ref q_notice, .int q.2.1, .int q.2.2]))], wSt G va u.2.1, [(hih0, .inr (7, [.int u.2.2.1.1, .int u.2.2.1.2, .ref hsh]))], wHs G hsh hsa u.2.2.2]) := by
  refine w_startH (by decide +kernel) (Nat.le_of_ble_eq_true rfl) ?_
  intro p e s m below meth c A hx hb hr hml hts hown hlk hin hxt hP hD hA hK hST ls hl
  have hS : va_S A s.heap s.heap [] := va_S.rf
  have hown : s.vm.findClass RL = some m.cls := hown
  have hl : lv_has ls 7 [(0, .ref qh0), (1, .int dr), (2, .int ph), (3, .int fh), (4, .int lh), (5, .int ke)] := hl
  have hF : f_L_setRule q v hi hs dr ph fh lh ke = (let uu_3 : String × Int32 × StV × HiV × (Nat → StV) := (f_X9_setRule q v hi hs dr ph fh lh ke); (if uu_3.1 = "" then (uu_3.2.1, uu_3.2.2.1, uu_3.2.2.2.1, uu_3.2.2.2.2) else (if (f_X9_setRule q v hi hs dr ph fh lh ke).1 = "java/lang/IndexOutOfBoundsException" then ((-900001 : Int32), v, hi, hs) else (if (f_X9_setRule q v hi hs dr ph fh lh ke).1 = "java/lang/IllegalArgumentException" then ((-900002 : Int32), v, hi, hs) else (0, v, hi, hs))))) := rfl
  have hok : (nx9 hi.2 ∧ (let uu_3 : String × Int32 × StV × HiV × (Nat → StV) := (f_X9_setRule q v hi hs dr ph fh lh ke); (if uu_3.1 = "" then True else (if (f_X9_setRule q v hi hs dr ph fh lh ke).1 = "java/lang/IndexOutOfBoundsException" then True else (if (f_X9_setRule q v hi hs dr ph fh lh ke).1 = "java/lang/IllegalArgumentException" then True else False))))) := hok
  refine lv_aload_n hx hb dL_setRule_0 rfl (lv_at hl 0 rfl) ?_
  refine lv_iload_n hx hb dL_setRule_1 rfl (lv_at hl 1 rfl) ?_
  refine lv_iload_n hx hb dL_setRule_2 rfl (lv_at hl 2 rfl) ?_
  refine lv_iload_n hx hb dL_setRule_3 rfl (lv_at hl 3 rfl) ?_
  refine lv_iload hx hb dL_setRule_4 (lv_at hl 4 rfl) ?_
  refine lv_iload hx hb dL_setRule_6 (lv_at hl 5 rfl) ?_
  have k_1 := hok.1
  have hok := hok.2
  refine xw_V (own := RL) (cs := [[(qh0, .inr (11, [.ref (va 0), .ref q_snapshot, .int q.1, .ref hih0, .ref q_program, .ref q_notice, .int q.2.1, .int q.2.2]))], wSt G va v, [(hih0, .inr (7, [.int hi.1, .int hi.2, .ref hsh]))], wHs G hsh hsa hs]) (rs := []) (As := [.int dr, .int ph, .int fh, .int lh, .int ke]) (rest := []) (c_X9_setRuleS l hlf G qh0 q_snapshot q_program q_notice va hih0 hsh hsa s.heap.size q v hi hs dr ph fh lh ke k_1) ⟨hx, hb, hml, hown, hts⟩ g_L_21 hdv_X9_setRule hK hST hS hP hD hA [0, 1, 2, 3] [] rfl rfl rfl (k0 := 0) rfl rfl rfl ⟨Nat.le_of_ble_eq_true rfl, Nat.le_of_ble_eq_true rfl⟩ ⟨Nat.le_of_ble_eq_true rfl, Nat.le_of_ble_eq_true rfl⟩ rfl hl.1 rfl (Nat.le_of_ble_eq_true rfl) dL_setRule_8 (fun E ce q9 H locs hE hP hS h3 h4 h5 => ?_) (fun uu_3 H locs huu hP hD hS => ?_)
  rotate_left
  obtain ⟨huu, b_2⟩ := huu
  rw [← huu] at b_2
  have euu_3 := huu
  have hP : va_P G.1 vwCl (fl [[(qh0, .inr (11, [.ref (va 0), .ref q_snapshot, .int q.1, .ref hih0, .ref q_program, .ref q_notice, .int q.2.1, .int q.2.2]))], wSt G va uu_3.2.2.1, [(hih0, .inr (7, [.int uu_3.2.2.2.1.1, .int uu_3.2.2.2.1.2, .ref hsh]))], wHs G hsh hsa uu_3.2.2.2.2]) H := hP
  have hD : va_D A (fl [[(qh0, .inr (11, [.ref (va 0), .ref q_snapshot, .int q.1, .ref hih0, .ref q_program, .ref q_notice, .int q.2.1, .int q.2.2]))], wSt G va uu_3.2.2.1, [(hih0, .inr (7, [.int uu_3.2.2.2.1.1, .int uu_3.2.2.2.1.2, .ref hsh]))], wHs G hsh hsa uu_3.2.2.2.2]) := hD
  refine W.eq (g2 := F0 m 11 ls [.int uu_3.2.1]) rfl ?_
  have hE := b_2.1
  have hF : f_L_setRule q v hi hs dr ph fh lh ke = (if uu_3.1 = "" then (uu_3.2.1, uu_3.2.2.1, uu_3.2.2.2.1, uu_3.2.2.2.2) else (if (f_X9_setRule q v hi hs dr ph fh lh ke).1 = "java/lang/IndexOutOfBoundsException" then ((-900001 : Int32), v, hi, hs) else (if (f_X9_setRule q v hi hs dr ph fh lh ke).1 = "java/lang/IllegalArgumentException" then ((-900002 : Int32), v, hi, hs) else (0, v, hi, hs)))) := by subst euu_3; exact hF
  have hF := hF.trans (if_pos hE)
  have hok : (if uu_3.1 = "" then True else (if (f_X9_setRule q v hi hs dr ph fh lh ke).1 = "java/lang/IndexOutOfBoundsException" then True else (if (f_X9_setRule q v hi hs dr ph fh lh ke).1 = "java/lang/IllegalArgumentException" then True else False))) := by subst euu_3; exact hok
  have hok := Eq.mp (if_pos hE) hok
  exact w_ret (u := (uu_3.2.1, uu_3.2.2.1, uu_3.2.2.2.1, uu_3.2.2.2.2)) hx hb hr hlk rfl hS rfl hF.symm hP hD (Nat.le_of_ble_eq_true rfl) (Nat.le_of_ble_eq_true rfl) dL_setRule_11
  have hF := hF.trans (if_neg (fun e => hE.2 (hE.1.trans e)))
  have hok := Eq.mp (if_neg (fun e => hE.2 (hE.1.trans e))) hok
  by_cases c_4 : (f_X9_setRule q v hi hs dr ph fh lh ke).1 = "java/lang/IndexOutOfBoundsException"
  · have hF := hF.trans (if_pos c_4)
    have hok := Eq.mp (if_pos c_4) hok
    have hEE : E = "java/lang/IndexOutOfBoundsException" := hE.1.trans c_4
    subst hEE
    refine vx_catch (own := RL) (name := "java/lang/IndexOutOfBoundsException") hown [] (⟨0, 11, 12, 25⟩ : ExceptionTableEntry) [(⟨0, 11, 17, 15⟩ : ExceptionTableEntry)] (hxt.trans rfl) (fun z hz => nomatch hz) (by decide) (by decide) (hts _ u_578) (va_tabs rfl rfl (hST.2.2.2.2.2.2.2.1 _ cst_IndexOutOfBoundsException)) h3 h4 h5 ?_
    refine W.eq (g2 := F0 m 12 ls [.ref q9]) rfl ?_
    refine lv_astore (lv' := [(6, .ref q9), (0, .ref qh0), (1, .int dr), (2, .int ph), (3, .int fh), (4, .int lh), (5, .int ke)]) hx hb dL_setRule_12 hl (by decide) rfl (fun ls hl => ?_)
    refine lv_ldc hx hb hown (hts _ u_704) dL_setRule_14 ?_
    exact w_ret (u := ((-900001 : Int32), v, hi, hs)) hx hb hr hlk rfl hS rfl hF.symm hP hD (Nat.le_of_ble_eq_true rfl) (Nat.le_of_ble_eq_true rfl) dL_setRule_16
  · have hF := hF.trans (if_neg c_4)
    have hok := Eq.mp (if_neg c_4) hok
    by_cases c_5 : (f_X9_setRule q v hi hs dr ph fh lh ke).1 = "java/lang/IllegalArgumentException"
    · have hF := hF.trans (if_pos c_5)
      have hok := Eq.mp (if_pos c_5) hok
      have hEE : E = "java/lang/IllegalArgumentException" := hE.1.trans c_5
      subst hEE
      refine vx_catch (own := RL) (name := "java/lang/IllegalArgumentException") hown [(⟨0, 11, 12, 25⟩ : ExceptionTableEntry)] (⟨0, 11, 17, 15⟩ : ExceptionTableEntry) [] (hxt.trans rfl) (List.forall_mem_cons.mpr ⟨Or.inr ⟨by decide, "java/lang/IndexOutOfBoundsException", hts _ u_578, hST.2.2.2.2.2.2.2.2.1 ("java/lang/IllegalArgumentException", "java/lang/IndexOutOfBoundsException") (by decide +kernel)⟩, fun _ h => nomatch h⟩) (by decide) (by decide) (hts _ u_581) (va_tabs rfl rfl (hST.2.2.2.2.2.2.2.1 _ cst_IllegalArgumentException)) h3 h4 h5 ?_
      refine W.eq (g2 := F0 m 17 ls [.ref q9]) rfl ?_
      refine lv_astore (lv' := [(6, .ref q9), (0, .ref qh0), (1, .int dr), (2, .int ph), (3, .int fh), (4, .int lh), (5, .int ke)]) hx hb dL_setRule_17 hl (by decide) rfl (fun ls hl => ?_)
      refine lv_ldc hx hb hown (hts _ u_705) dL_setRule_19 ?_
      exact w_ret (u := ((-900002 : Int32), v, hi, hs)) hx hb hr hlk rfl hS rfl hF.symm hP hD (Nat.le_of_ble_eq_true rfl) (Nat.le_of_ble_eq_true rfl) dL_setRule_21
    · have hF := hF.trans (if_neg c_5)
      have hok := Eq.mp (if_neg c_5) hok
      exact hok.elim
theorem dL_addException_0 : decode cL_addException 0 = .ok (.aload_n 0, 1) := by decide +kernel
theorem dL_addException_1 : decode cL_addException 1 = .ok (.iload_n 1, 1) := by decide +kernel
theorem dL_addException_2 : decode cL_addException 2 = .ok (.iload_n 2, 1) := by decide +kernel
theorem dL_addException_3 : decode cL_addException 3 = .ok (.iload_n 3, 1) := by decide +kernel
theorem dL_addException_4 : decode cL_addException 4 = .ok (.invokevirtual 27, 3) := by decide +kernel
theorem u_584 : Cond.methodLink RL 27 yX9_addException ∈ UW := uw 584 (by decide +kernel) rfl
theorem u_585 : Cond.instanceMethod yX9_addException ∈ UW := uw 585 (by decide +kernel) rfl
theorem u_586 : Cond.selects RX9 yX9_addException yX9_addException ∈ UW := uw 586 (by decide +kernel) rfl
theorem u_587 : Cond.code yX9_addException cX9_addException 4 (some .int) ∈ UW := uw 587 (by decide +kernel) rfl
theorem g_L_27 : GoodIn UW (wsV RL 27 RX9 yX9_addException (wsU yX9_addException cX9_addException 4 (some .int))) := gV u_584 u_585 u_586 u_21 u_587
theorem hdv_X9_addException : yX9_addException.cls = RX9 ∧ yX9_addException.cls ≠ "java/lang/invoke/MethodHandle" ∧ yX9_addException.cls ≠ "java/lang/invoke/VarHandle" ∧ (parseMethodDescriptor yX9_addException.desc).map (fun d => d.parameters.length) = some 3 := by decide +kernel
theorem dL_addException_7 : decode cL_addException 7 = .ok (.ireturn, 1) := by decide +kernel
theorem dL_addException_8 : decode cL_addException 8 = .ok (.astore 4, 2) := by decide +kernel
theorem dL_addException_10 : decode cL_addException 10 = .ok (.ldc 17, 2) := by decide +kernel
theorem dL_addException_12 : decode cL_addException 12 = .ok (.ireturn, 1) := by decide +kernel
theorem dL_addException_13 : decode cL_addException 13 = .ok (.astore 4, 2) := by decide +kernel
theorem dL_addException_15 : decode cL_addException 15 = .ok (.ldc 20, 2) := by decide +kernel
theorem dL_addException_17 : decode cL_addException 17 = .ok (.ireturn, 1) := by decide +kernel
theorem u_582 : Cond.classLink RL 31 "java/lang/UnsupportedOperationException" ∈ UW := uw 582 (by decide +kernel) rfl
theorem cst_UnsupportedOperationException : Cond.castable "java/lang/UnsupportedOperationException" "java/lang/UnsupportedOperationException" ∈ CW := cwm 616 (by decide +kernel) rfl
theorem dL_addException_18 : decode cL_addException 18 = .ok (.astore 4, 2) := by decide +kernel
theorem dL_addException_20 : decode cL_addException 20 = .ok (.ldc 33, 2) := by decide +kernel
theorem u_706 : Cond.constant RL 33 (-900003) ∈ UW := uw 706 (by decide +kernel) rfl
theorem dL_addException_22 : decode cL_addException 22 = .ok (.ireturn, 1) := by decide +kernel
theorem dL_addException_23 : decode cL_addException 23 = .ok (.astore 4, 2) := by decide +kernel
theorem dL_addException_25 : decode cL_addException 25 = .ok (.ldc 34, 2) := by decide +kernel
theorem u_707 : Cond.constant RL 34 (-900004) ∈ UW := uw 707 (by decide +kernel) rfl
theorem dL_addException_27 : decode cL_addException 27 = .ok (.ireturn, 1) := by decide +kernel
set_option maxHeartbeats 8000000 in
set_option maxRecDepth 100000 in
set_option linter.constructorNameAsVariable false in
theorem c_L_addException (l : Launch) (hlf : l.stackTraces = false) (G : GG) (qh0 : Nat) (q_snapshot : Nat) (q_program : Nat) (q_notice : Nat) (va : Nat → Nat) (hih0 : Nat) (hsh : Nat) (hsa : Nat → Nat → Nat) (sz : Nat) (q : McV) (v : StV) (hi : HiV) (hs : Nat → StV) (dr : Int32) (dy : Int32) (op : Int32) (hok : ok_L_addException q v hi hs dr dy op) : wMetH l yL_addException cL_addException 5 (some .int) [(0, 7, 8, 25), (0, 7, 13, 15), (0, 7, 18, 31), (0, 7, 23, 18)] 10 1 6 G (fl [[(qh0, .inr (11, [.ref (va 0), .ref q_snapshot, .int q.1, .ref hih0, .ref q_program, .ref q_notice, .int q.2.1, .int q.2.2]))], wSt G va v, [(hih0, .inr (7, [.int hi.1, .int hi.2, .ref hsh]))], wHs G hsh hsa hs]) [.ref qh0, .int dr, .int dy, .int op] sz (fun u : Int32 × StV × HiV × (Nat → StV) => some (.int u.1)) (fun u : Int32 × StV × HiV × (Nat → StV) => u = f_L_addException q v hi hs dr dy op) (fun u : Int32 × StV × HiV × (Nat → StV) => fl [[(qh0, .inr (11, [.ref (va 0), .ref q_snapshot, .int q.1, .ref hih0, .ref q_program, .ref q_notice, .int q.2.1, .int q.2.2]))], wSt G va u.2.1, [(hih0, .inr (7, [.int u.2.2.1.1, .int u.2.2.1.2, .ref hsh]))], wHs G hsh hsa u.2.2.2]) := by
  refine w_startH (by decide +kernel) (Nat.le_of_ble_eq_true rfl) ?_
  intro p e s m below meth c A hx hb hr hml hts hown hlk hin hxt hP hD hA hK hST ls hl
  have hS : va_S A s.heap s.heap [] := va_S.rf
  have hown : s.vm.findClass RL = some m.cls := hown
  have hl : lv_has ls 5 [(0, .ref qh0), (1, .int dr), (2, .int dy), (3, .int op)] := hl
  have hF : f_L_addException q v hi hs dr dy op = (let uu_3 : String × Int32 × StV × HiV × (Nat → StV) := (f_X9_addException q v hi hs dr dy op); (if uu_3.1 = "" then (uu_3.2.1, uu_3.2.2.1, uu_3.2.2.2.1, uu_3.2.2.2.2) else (if (f_X9_addException q v hi hs dr dy op).1 = "java/lang/IndexOutOfBoundsException" then ((-900001 : Int32), v, hi, hs) else (if (f_X9_addException q v hi hs dr dy op).1 = "java/lang/IllegalArgumentException" then ((-900002 : Int32), v, hi, hs) else (if (f_X9_addException q v hi hs dr dy op).1 = "java/lang/UnsupportedOperationException" then ((-900003 : Int32), v, hi, hs) else (if (f_X9_addException q v hi hs dr dy op).1 = "java/lang/IllegalStateException" then ((-900004 : Int32), v, hi, hs) else (0, v, hi, hs))))))) := rfl
  have hok : (nx9 hi.2 ∧ (let uu_3 : String × Int32 × StV × HiV × (Nat → StV) := (f_X9_addException q v hi hs dr dy op); (if uu_3.1 = "" then True else (if (f_X9_addException q v hi hs dr dy op).1 = "java/lang/IndexOutOfBoundsException" then True else (if (f_X9_addException q v hi hs dr dy op).1 = "java/lang/IllegalArgumentException" then True else (if (f_X9_addException q v hi hs dr dy op).1 = "java/lang/UnsupportedOperationException" then True else (if (f_X9_addException q v hi hs dr dy op).1 = "java/lang/IllegalStateException" then True else False))))))) := hok
  refine lv_aload_n hx hb dL_addException_0 rfl (lv_at hl 0 rfl) ?_
  refine lv_iload_n hx hb dL_addException_1 rfl (lv_at hl 1 rfl) ?_
  refine lv_iload_n hx hb dL_addException_2 rfl (lv_at hl 2 rfl) ?_
  refine lv_iload_n hx hb dL_addException_3 rfl (lv_at hl 3 rfl) ?_
  have k_1 := hok.1
  have hok := hok.2
  refine xw_V (own := RL) (cs := [[(qh0, .inr (11, [.ref (va 0), .ref q_snapshot, .int q.1, .ref hih0, .ref q_program, .ref q_notice, .int q.2.1, .int q.2.2]))], wSt G va v, [(hih0, .inr (7, [.int hi.1, .int hi.2, .ref hsh]))], wHs G hsh hsa hs]) (rs := []) (As := [.int dr, .int dy, .int op]) (rest := []) (c_X9_addExceptionS l hlf G qh0 q_snapshot q_program q_notice va hih0 hsh hsa s.heap.size q v hi hs dr dy op k_1) ⟨hx, hb, hml, hown, hts⟩ g_L_27 hdv_X9_addException hK hST hS hP hD hA [0, 1, 2, 3] [] rfl rfl rfl (k0 := 0) rfl rfl rfl ⟨Nat.le_of_ble_eq_true rfl, Nat.le_of_ble_eq_true rfl⟩ ⟨Nat.le_of_ble_eq_true rfl, Nat.le_of_ble_eq_true rfl⟩ rfl hl.1 rfl (Nat.le_of_ble_eq_true rfl) dL_addException_4 (fun E ce q9 H locs hE hP hS h3 h4 h5 => ?_) (fun uu_3 H locs huu hP hD hS => ?_)
  rotate_left
  obtain ⟨huu, b_2⟩ := huu
  rw [← huu] at b_2
  have euu_3 := huu
  have hP : va_P G.1 vwCl (fl [[(qh0, .inr (11, [.ref (va 0), .ref q_snapshot, .int q.1, .ref hih0, .ref q_program, .ref q_notice, .int q.2.1, .int q.2.2]))], wSt G va uu_3.2.2.1, [(hih0, .inr (7, [.int uu_3.2.2.2.1.1, .int uu_3.2.2.2.1.2, .ref hsh]))], wHs G hsh hsa uu_3.2.2.2.2]) H := hP
  have hD : va_D A (fl [[(qh0, .inr (11, [.ref (va 0), .ref q_snapshot, .int q.1, .ref hih0, .ref q_program, .ref q_notice, .int q.2.1, .int q.2.2]))], wSt G va uu_3.2.2.1, [(hih0, .inr (7, [.int uu_3.2.2.2.1.1, .int uu_3.2.2.2.1.2, .ref hsh]))], wHs G hsh hsa uu_3.2.2.2.2]) := hD
  refine W.eq (g2 := F0 m 7 ls [.int uu_3.2.1]) rfl ?_
  have hE := b_2.1
  have hF : f_L_addException q v hi hs dr dy op = (if uu_3.1 = "" then (uu_3.2.1, uu_3.2.2.1, uu_3.2.2.2.1, uu_3.2.2.2.2) else (if (f_X9_addException q v hi hs dr dy op).1 = "java/lang/IndexOutOfBoundsException" then ((-900001 : Int32), v, hi, hs) else (if (f_X9_addException q v hi hs dr dy op).1 = "java/lang/IllegalArgumentException" then ((-900002 : Int32), v, hi, hs) else (if (f_X9_addException q v hi hs dr dy op).1 = "java/lang/UnsupportedOperationException" then ((-900003 : Int32), v, hi, hs) else (if (f_X9_addException q v hi hs dr dy op).1 = "java/lang/IllegalStateException" then ((-900004 : Int32), v, hi, hs) else (0, v, hi, hs)))))) := by subst euu_3; exact hF
  have hF := hF.trans (if_pos hE)
  have hok : (if uu_3.1 = "" then True else (if (f_X9_addException q v hi hs dr dy op).1 = "java/lang/IndexOutOfBoundsException" then True else (if (f_X9_addException q v hi hs dr dy op).1 = "java/lang/IllegalArgumentException" then True else (if (f_X9_addException q v hi hs dr dy op).1 = "java/lang/UnsupportedOperationException" then True else (if (f_X9_addException q v hi hs dr dy op).1 = "java/lang/IllegalStateException" then True else False))))) := by subst euu_3; exact hok
  have hok := Eq.mp (if_pos hE) hok
  exact w_ret (u := (uu_3.2.1, uu_3.2.2.1, uu_3.2.2.2.1, uu_3.2.2.2.2)) hx hb hr hlk rfl hS rfl hF.symm hP hD (Nat.le_of_ble_eq_true rfl) (Nat.le_of_ble_eq_true rfl) dL_addException_7
  have hF := hF.trans (if_neg (fun e => hE.2 (hE.1.trans e)))
  have hok := Eq.mp (if_neg (fun e => hE.2 (hE.1.trans e))) hok
  by_cases c_4 : (f_X9_addException q v hi hs dr dy op).1 = "java/lang/IndexOutOfBoundsException"
  · have hF := hF.trans (if_pos c_4)
    have hok := Eq.mp (if_pos c_4) hok
    have hEE : E = "java/lang/IndexOutOfBoundsException" := hE.1.trans c_4
    subst hEE
    refine vx_catch (own := RL) (name := "java/lang/IndexOutOfBoundsException") hown [] (⟨0, 7, 8, 25⟩ : ExceptionTableEntry) [(⟨0, 7, 13, 15⟩ : ExceptionTableEntry), (⟨0, 7, 18, 31⟩ : ExceptionTableEntry), (⟨0, 7, 23, 18⟩ : ExceptionTableEntry)] (hxt.trans rfl) (fun z hz => nomatch hz) (by decide) (by decide) (hts _ u_578) (va_tabs rfl rfl (hST.2.2.2.2.2.2.2.1 _ cst_IndexOutOfBoundsException)) h3 h4 h5 ?_
    refine W.eq (g2 := F0 m 8 ls [.ref q9]) rfl ?_
    refine lv_astore (lv' := [(4, .ref q9), (0, .ref qh0), (1, .int dr), (2, .int dy), (3, .int op)]) hx hb dL_addException_8 hl (by decide) rfl (fun ls hl => ?_)
    refine lv_ldc hx hb hown (hts _ u_704) dL_addException_10 ?_
    exact w_ret (u := ((-900001 : Int32), v, hi, hs)) hx hb hr hlk rfl hS rfl hF.symm hP hD (Nat.le_of_ble_eq_true rfl) (Nat.le_of_ble_eq_true rfl) dL_addException_12
  · have hF := hF.trans (if_neg c_4)
    have hok := Eq.mp (if_neg c_4) hok
    by_cases c_5 : (f_X9_addException q v hi hs dr dy op).1 = "java/lang/IllegalArgumentException"
    · have hF := hF.trans (if_pos c_5)
      have hok := Eq.mp (if_pos c_5) hok
      have hEE : E = "java/lang/IllegalArgumentException" := hE.1.trans c_5
      subst hEE
      refine vx_catch (own := RL) (name := "java/lang/IllegalArgumentException") hown [(⟨0, 7, 8, 25⟩ : ExceptionTableEntry)] (⟨0, 7, 13, 15⟩ : ExceptionTableEntry) [(⟨0, 7, 18, 31⟩ : ExceptionTableEntry), (⟨0, 7, 23, 18⟩ : ExceptionTableEntry)] (hxt.trans rfl) (List.forall_mem_cons.mpr ⟨Or.inr ⟨by decide, "java/lang/IndexOutOfBoundsException", hts _ u_578, hST.2.2.2.2.2.2.2.2.1 ("java/lang/IllegalArgumentException", "java/lang/IndexOutOfBoundsException") (by decide +kernel)⟩, fun _ h => nomatch h⟩) (by decide) (by decide) (hts _ u_581) (va_tabs rfl rfl (hST.2.2.2.2.2.2.2.1 _ cst_IllegalArgumentException)) h3 h4 h5 ?_
      refine W.eq (g2 := F0 m 13 ls [.ref q9]) rfl ?_
      refine lv_astore (lv' := [(4, .ref q9), (0, .ref qh0), (1, .int dr), (2, .int dy), (3, .int op)]) hx hb dL_addException_13 hl (by decide) rfl (fun ls hl => ?_)
      refine lv_ldc hx hb hown (hts _ u_705) dL_addException_15 ?_
      exact w_ret (u := ((-900002 : Int32), v, hi, hs)) hx hb hr hlk rfl hS rfl hF.symm hP hD (Nat.le_of_ble_eq_true rfl) (Nat.le_of_ble_eq_true rfl) dL_addException_17
    · have hF := hF.trans (if_neg c_5)
      have hok := Eq.mp (if_neg c_5) hok
      by_cases c_6 : (f_X9_addException q v hi hs dr dy op).1 = "java/lang/UnsupportedOperationException"
      · have hF := hF.trans (if_pos c_6)
        have hok := Eq.mp (if_pos c_6) hok
        have hEE : E = "java/lang/UnsupportedOperationException" := hE.1.trans c_6
        subst hEE
        refine vx_catch (own := RL) (name := "java/lang/UnsupportedOperationException") hown [(⟨0, 7, 8, 25⟩ : ExceptionTableEntry), (⟨0, 7, 13, 15⟩ : ExceptionTableEntry)] (⟨0, 7, 18, 31⟩ : ExceptionTableEntry) [(⟨0, 7, 23, 18⟩ : ExceptionTableEntry)] (hxt.trans rfl) (List.forall_mem_cons.mpr ⟨Or.inr ⟨by decide, "java/lang/IndexOutOfBoundsException", hts _ u_578, hST.2.2.2.2.2.2.2.2.1 ("java/lang/UnsupportedOperationException", "java/lang/IndexOutOfBoundsException") (by decide +kernel)⟩, List.forall_mem_cons.mpr ⟨Or.inr ⟨by decide, "java/lang/IllegalArgumentException", hts _ u_581, hST.2.2.2.2.2.2.2.2.1 ("java/lang/UnsupportedOperationException", "java/lang/IllegalArgumentException") (by decide +kernel)⟩, fun _ h => nomatch h⟩⟩) (by decide) (by decide) (hts _ u_582) (va_tabs rfl rfl (hST.2.2.2.2.2.2.2.1 _ cst_UnsupportedOperationException)) h3 h4 h5 ?_
        refine W.eq (g2 := F0 m 18 ls [.ref q9]) rfl ?_
        refine lv_astore (lv' := [(4, .ref q9), (0, .ref qh0), (1, .int dr), (2, .int dy), (3, .int op)]) hx hb dL_addException_18 hl (by decide) rfl (fun ls hl => ?_)
        refine lv_ldc hx hb hown (hts _ u_706) dL_addException_20 ?_
        exact w_ret (u := ((-900003 : Int32), v, hi, hs)) hx hb hr hlk rfl hS rfl hF.symm hP hD (Nat.le_of_ble_eq_true rfl) (Nat.le_of_ble_eq_true rfl) dL_addException_22
      · have hF := hF.trans (if_neg c_6)
        have hok := Eq.mp (if_neg c_6) hok
        by_cases c_7 : (f_X9_addException q v hi hs dr dy op).1 = "java/lang/IllegalStateException"
        · have hF := hF.trans (if_pos c_7)
          have hok := Eq.mp (if_pos c_7) hok
          have hEE : E = "java/lang/IllegalStateException" := hE.1.trans c_7
          subst hEE
          refine vx_catch (own := RL) (name := "java/lang/IllegalStateException") hown [(⟨0, 7, 8, 25⟩ : ExceptionTableEntry), (⟨0, 7, 13, 15⟩ : ExceptionTableEntry), (⟨0, 7, 18, 31⟩ : ExceptionTableEntry)] (⟨0, 7, 23, 18⟩ : ExceptionTableEntry) [] (hxt.trans rfl) (List.forall_mem_cons.mpr ⟨Or.inr ⟨by decide, "java/lang/IndexOutOfBoundsException", hts _ u_578, hST.2.2.2.2.2.2.2.2.1 ("java/lang/IllegalStateException", "java/lang/IndexOutOfBoundsException") (by decide +kernel)⟩, List.forall_mem_cons.mpr ⟨Or.inr ⟨by decide, "java/lang/IllegalArgumentException", hts _ u_581, hST.2.2.2.2.2.2.2.2.1 ("java/lang/IllegalStateException", "java/lang/IllegalArgumentException") (by decide +kernel)⟩, List.forall_mem_cons.mpr ⟨Or.inr ⟨by decide, "java/lang/UnsupportedOperationException", hts _ u_582, hST.2.2.2.2.2.2.2.2.1 ("java/lang/IllegalStateException", "java/lang/UnsupportedOperationException") (by decide +kernel)⟩, fun _ h => nomatch h⟩⟩⟩) (by decide) (by decide) (hts _ u_583) (va_tabs rfl rfl (hST.2.2.2.2.2.2.2.1 _ cst_IllegalStateException)) h3 h4 h5 ?_
          refine W.eq (g2 := F0 m 23 ls [.ref q9]) rfl ?_
          refine lv_astore (lv' := [(4, .ref q9), (0, .ref qh0), (1, .int dr), (2, .int dy), (3, .int op)]) hx hb dL_addException_23 hl (by decide) rfl (fun ls hl => ?_)
          refine lv_ldc hx hb hown (hts _ u_707) dL_addException_25 ?_
          exact w_ret (u := ((-900004 : Int32), v, hi, hs)) hx hb hr hlk rfl hS rfl hF.symm hP hD (Nat.le_of_ble_eq_true rfl) (Nat.le_of_ble_eq_true rfl) dL_addException_27
        · have hF := hF.trans (if_neg c_7)
          have hok := Eq.mp (if_neg c_7) hok
          exact hok.elim
theorem dL_exceptionDoor_0 : decode cL_exceptionDoor 0 = .ok (.aload_n 0, 1) := by decide +kernel
theorem dL_exceptionDoor_1 : decode cL_exceptionDoor 1 = .ok (.iload_n 1, 1) := by decide +kernel
theorem dL_exceptionDoor_2 : decode cL_exceptionDoor 2 = .ok (.invokevirtual 35, 3) := by decide +kernel
theorem u_1196 : Cond.methodLink RL 35 yX9_exceptionDoor ∈ UW := uw 1196 (by decide +kernel) rfl
theorem u_1197 : Cond.instanceMethod yX9_exceptionDoor ∈ UW := uw 1197 (by decide +kernel) rfl
theorem u_1198 : Cond.selects RX9 yX9_exceptionDoor yX9_exceptionDoor ∈ UW := uw 1198 (by decide +kernel) rfl
theorem u_1199 : Cond.code yX9_exceptionDoor cX9_exceptionDoor 2 (some .int) ∈ UW := uw 1199 (by decide +kernel) rfl
theorem g_L_35 : GoodIn UW (wsV RL 35 RX9 yX9_exceptionDoor (wsU yX9_exceptionDoor cX9_exceptionDoor 2 (some .int))) := gV u_1196 u_1197 u_1198 u_21 u_1199
theorem hdv_X9_exceptionDoor : yX9_exceptionDoor.cls = RX9 ∧ yX9_exceptionDoor.cls ≠ "java/lang/invoke/MethodHandle" ∧ yX9_exceptionDoor.cls ≠ "java/lang/invoke/VarHandle" ∧ (parseMethodDescriptor yX9_exceptionDoor.desc).map (fun d => d.parameters.length) = some 1 := by decide +kernel
theorem u_840 : Cond.classLink RL 39 "java/util/NoSuchElementException" ∈ UW := uw 840 (by decide +kernel) rfl
theorem cst_NoSuchElementException : Cond.castable "java/util/NoSuchElementException" "java/util/NoSuchElementException" ∈ CW := cwm 651 (by decide +kernel) rfl
theorem dL_exceptionDoor_6 : decode cL_exceptionDoor 6 = .ok (.astore_n 2, 1) := by decide +kernel
theorem dL_exceptionDoor_7 : decode cL_exceptionDoor 7 = .ok (.ldc 17, 2) := by decide +kernel
theorem dL_exceptionDoor_9 : decode cL_exceptionDoor 9 = .ok (.ireturn, 1) := by decide +kernel
theorem dL_exceptionDoor_5 : decode cL_exceptionDoor 5 = .ok (.ireturn, 1) := by decide +kernel
set_option maxHeartbeats 8000000 in
set_option maxRecDepth 100000 in
set_option linter.constructorNameAsVariable false in
theorem c_L_exceptionDoor (l : Launch) (hlf : l.stackTraces = false) (G : GG) (qh0 : Nat) (q_snapshot : Nat) (q_history : Nat) (q_program : Nat) (q_notice : Nat) (va : Nat → Nat) (sz : Nat) (q : McV) (v : StV) (x : Int32) (hok : ok_L_exceptionDoor q v x) : wMetH l yL_exceptionDoor cL_exceptionDoor 3 (some .int) [(0, 5, 6, 39)] 10 1 6 G (fl [[(qh0, .inr (11, [.ref (va 0), .ref q_snapshot, .int q.1, .ref q_history, .ref q_program, .ref q_notice, .int q.2.1, .int q.2.2]))], wSt G va v]) [.ref qh0, .int x] sz (fun u : Int32 => some (.int u)) (fun u : Int32 => u = f_L_exceptionDoor q v x) (fun u : Int32 => fl [[(qh0, .inr (11, [.ref (va 0), .ref q_snapshot, .int q.1, .ref q_history, .ref q_program, .ref q_notice, .int q.2.1, .int q.2.2]))], wSt G va v]) := by
  refine w_startH (by decide +kernel) (Nat.le_of_ble_eq_true rfl) ?_
  intro p e s m below meth c A hx hb hr hml hts hown hlk hin hxt hP hD hA hK hST ls hl
  have hS : va_S A s.heap s.heap [] := va_S.rf
  have hown : s.vm.findClass RL = some m.cls := hown
  have hl : lv_has ls 3 [(0, .ref qh0), (1, .int x)] := hl
  have hF : f_L_exceptionDoor q v x = (if (f_X9_exceptionDoor q v x).1 = "" then (f_X9_exceptionDoor q v x).2 else (if (f_X9_exceptionDoor q v x).1 = "java/util/NoSuchElementException" then (-900001 : Int32) else 0)) := rfl
  have hok : (if (f_X9_exceptionDoor q v x).1 = "" then True else (if (f_X9_exceptionDoor q v x).1 = "java/util/NoSuchElementException" then True else False)) := hok
  refine lv_aload_n hx hb dL_exceptionDoor_0 rfl (lv_at hl 0 rfl) ?_
  refine lv_iload_n hx hb dL_exceptionDoor_1 rfl (lv_at hl 1 rfl) ?_
  refine xr_V (own := RL) (v := (some (.int ((f_X9_exceptionDoor q v x).2)))) (st1 := [.int ((f_X9_exceptionDoor q v x).2)]) (As := [.int x]) (rest := []) (c_X9_exceptionDoorS l hlf G qh0 q_snapshot q_history q_program q_notice va q v x) ⟨hx, hb, hml, hown, hts⟩ g_L_35 hdv_X9_exceptionDoor hK hST hS hP [0, 1, 2, 3, 4, 5, 6, 7, 8, 9, 10, 11, 12, 13, 14, 15, 16, 17, 18, 19, 20] rfl (k0 := 0) rfl rfl rfl ⟨Nat.le_of_ble_eq_true rfl, Nat.le_of_ble_eq_true rfl⟩ ⟨Nat.le_of_ble_eq_true rfl, Nat.le_of_ble_eq_true rfl⟩ rfl hl.1 rfl (Nat.le_of_ble_eq_true rfl) dL_exceptionDoor_2 rfl (fun E ce q9 H hE h1 h2 h3 h4 h5 => ?_) (fun b_1 => ?_)
  · have hF := hF.trans (if_neg (fun e => hE.2 (hE.1.trans e)))
    have hok := Eq.mp (if_neg (fun e => hE.2 (hE.1.trans e))) hok
    have hP := hP.kept (fun k q hk => h2 q.1 ((hP k q hk).lt))
    have hS : va_S A s.heap H _ := ⟨Nat.le_trans hS.1 h1, fun q hq hA => (h2 q (Nat.lt_of_lt_of_le hq hS.1)).trans (hS.2.1 q hq hA), hS.2.2⟩
    by_cases c_2 : (f_X9_exceptionDoor q v x).1 = "java/util/NoSuchElementException"
    · have hF := hF.trans (if_pos c_2)
      have hok := Eq.mp (if_pos c_2) hok
      have hEE : E = "java/util/NoSuchElementException" := hE.1.trans c_2
      subst hEE
      refine vx_catch (own := RL) (name := "java/util/NoSuchElementException") hown [] (⟨0, 5, 6, 39⟩ : ExceptionTableEntry) [] (hxt.trans rfl) (fun z hz => nomatch hz) (by decide) (by decide) (hts _ u_840) (va_tabs rfl rfl (hST.2.2.2.2.2.2.2.1 _ cst_NoSuchElementException)) h3 h4 h5 ?_
      refine W.eq (g2 := F0 m 6 ls [.ref q9]) rfl ?_
      refine lv_astore_n (lv' := [(2, .ref q9), (0, .ref qh0), (1, .int x)]) hx hb dL_exceptionDoor_6 rfl hl (by decide) rfl (fun ls hl => ?_)
      refine lv_ldc hx hb hown (hts _ u_704) dL_exceptionDoor_7 ?_
      exact w_ret (u := (-900001 : Int32)) hx hb hr hlk rfl hS rfl hF.symm hP hD (Nat.le_of_ble_eq_true rfl) (Nat.le_of_ble_eq_true rfl) dL_exceptionDoor_9
    · have hF := hF.trans (if_neg c_2)
      have hok := Eq.mp (if_neg c_2) hok
      exact hok.elim
  · have hE := b_1.1
    have b_1 := b_1.2
    have hF := hF.trans (if_pos hE)
    have hok := Eq.mp (if_pos hE) hok
    exact w_ret (u := (f_X9_exceptionDoor q v x).2) hx hb hr hlk rfl hS rfl hF.symm hP hD (Nat.le_of_ble_eq_true rfl) (Nat.le_of_ble_eq_true rfl) dL_exceptionDoor_5
theorem dL_exceptionDay_0 : decode cL_exceptionDay 0 = .ok (.aload_n 0, 1) := by decide +kernel
theorem dL_exceptionDay_1 : decode cL_exceptionDay 1 = .ok (.iload_n 1, 1) := by decide +kernel
theorem dL_exceptionDay_2 : decode cL_exceptionDay 2 = .ok (.invokevirtual 41, 3) := by decide +kernel
theorem u_1208 : Cond.methodLink RL 41 yX9_exceptionDay ∈ UW := uw 1208 (by decide +kernel) rfl
theorem u_1209 : Cond.instanceMethod yX9_exceptionDay ∈ UW := uw 1209 (by decide +kernel) rfl
theorem u_1210 : Cond.selects RX9 yX9_exceptionDay yX9_exceptionDay ∈ UW := uw 1210 (by decide +kernel) rfl
theorem u_1211 : Cond.code yX9_exceptionDay cX9_exceptionDay 2 (some .int) ∈ UW := uw 1211 (by decide +kernel) rfl
theorem g_L_41 : GoodIn UW (wsV RL 41 RX9 yX9_exceptionDay (wsU yX9_exceptionDay cX9_exceptionDay 2 (some .int))) := gV u_1208 u_1209 u_1210 u_21 u_1211
theorem hdv_X9_exceptionDay : yX9_exceptionDay.cls = RX9 ∧ yX9_exceptionDay.cls ≠ "java/lang/invoke/MethodHandle" ∧ yX9_exceptionDay.cls ≠ "java/lang/invoke/VarHandle" ∧ (parseMethodDescriptor yX9_exceptionDay.desc).map (fun d => d.parameters.length) = some 1 := by decide +kernel
theorem dL_exceptionDay_6 : decode cL_exceptionDay 6 = .ok (.astore_n 2, 1) := by decide +kernel
theorem dL_exceptionDay_7 : decode cL_exceptionDay 7 = .ok (.ldc 17, 2) := by decide +kernel
theorem dL_exceptionDay_9 : decode cL_exceptionDay 9 = .ok (.ireturn, 1) := by decide +kernel
theorem dL_exceptionDay_5 : decode cL_exceptionDay 5 = .ok (.ireturn, 1) := by decide +kernel
set_option maxHeartbeats 8000000 in
set_option maxRecDepth 100000 in
set_option linter.constructorNameAsVariable false in
theorem c_L_exceptionDay (l : Launch) (hlf : l.stackTraces = false) (G : GG) (qh0 : Nat) (q_snapshot : Nat) (q_history : Nat) (q_program : Nat) (q_notice : Nat) (va : Nat → Nat) (sz : Nat) (q : McV) (v : StV) (x : Int32) (hok : ok_L_exceptionDay q v x) : wMetH l yL_exceptionDay cL_exceptionDay 3 (some .int) [(0, 5, 6, 39)] 10 1 6 G (fl [[(qh0, .inr (11, [.ref (va 0), .ref q_snapshot, .int q.1, .ref q_history, .ref q_program, .ref q_notice, .int q.2.1, .int q.2.2]))], wSt G va v]) [.ref qh0, .int x] sz (fun u : Int32 => some (.int u)) (fun u : Int32 => u = f_L_exceptionDay q v x) (fun u : Int32 => fl [[(qh0, .inr (11, [.ref (va 0), .ref q_snapshot, .int q.1, .ref q_history, .ref q_program, .ref q_notice, .int q.2.1, .int q.2.2]))], wSt G va v]) := by
  refine w_startH (by decide +kernel) (Nat.le_of_ble_eq_true rfl) ?_
  intro p e s m below meth c A hx hb hr hml hts hown hlk hin hxt hP hD hA hK hST ls hl
  have hS : va_S A s.heap s.heap [] := va_S.rf
  have hown : s.vm.findClass RL = some m.cls := hown
  have hl : lv_has ls 3 [(0, .ref qh0), (1, .int x)] := hl
  have hF : f_L_exceptionDay q v x = (if (f_X9_exceptionDay q v x).1 = "" then (f_X9_exceptionDay q v x).2 else (if (f_X9_exceptionDay q v x).1 = "java/util/NoSuchElementException" then (-900001 : Int32) else 0)) := rfl
  have hok : (if (f_X9_exceptionDay q v x).1 = "" then True else (if (f_X9_exceptionDay q v x).1 = "java/util/NoSuchElementException" then True else False)) := hok
  refine lv_aload_n hx hb dL_exceptionDay_0 rfl (lv_at hl 0 rfl) ?_
  refine lv_iload_n hx hb dL_exceptionDay_1 rfl (lv_at hl 1 rfl) ?_
  refine xr_V (own := RL) (v := (some (.int ((f_X9_exceptionDay q v x).2)))) (st1 := [.int ((f_X9_exceptionDay q v x).2)]) (As := [.int x]) (rest := []) (c_X9_exceptionDayS l hlf G qh0 q_snapshot q_history q_program q_notice va q v x) ⟨hx, hb, hml, hown, hts⟩ g_L_41 hdv_X9_exceptionDay hK hST hS hP [0, 1, 2, 3, 4, 5, 6, 7, 8, 9, 10, 11, 12, 13, 14, 15, 16, 17, 18, 19, 20] rfl (k0 := 0) rfl rfl rfl ⟨Nat.le_of_ble_eq_true rfl, Nat.le_of_ble_eq_true rfl⟩ ⟨Nat.le_of_ble_eq_true rfl, Nat.le_of_ble_eq_true rfl⟩ rfl hl.1 rfl (Nat.le_of_ble_eq_true rfl) dL_exceptionDay_2 rfl (fun E ce q9 H hE h1 h2 h3 h4 h5 => ?_) (fun b_1 => ?_)
  · have hF := hF.trans (if_neg (fun e => hE.2 (hE.1.trans e)))
    have hok := Eq.mp (if_neg (fun e => hE.2 (hE.1.trans e))) hok
    have hP := hP.kept (fun k q hk => h2 q.1 ((hP k q hk).lt))
    have hS : va_S A s.heap H _ := ⟨Nat.le_trans hS.1 h1, fun q hq hA => (h2 q (Nat.lt_of_lt_of_le hq hS.1)).trans (hS.2.1 q hq hA), hS.2.2⟩
    by_cases c_2 : (f_X9_exceptionDay q v x).1 = "java/util/NoSuchElementException"
    · have hF := hF.trans (if_pos c_2)
      have hok := Eq.mp (if_pos c_2) hok
      have hEE : E = "java/util/NoSuchElementException" := hE.1.trans c_2
      subst hEE
      refine vx_catch (own := RL) (name := "java/util/NoSuchElementException") hown [] (⟨0, 5, 6, 39⟩ : ExceptionTableEntry) [] (hxt.trans rfl) (fun z hz => nomatch hz) (by decide) (by decide) (hts _ u_840) (va_tabs rfl rfl (hST.2.2.2.2.2.2.2.1 _ cst_NoSuchElementException)) h3 h4 h5 ?_
      refine W.eq (g2 := F0 m 6 ls [.ref q9]) rfl ?_
      refine lv_astore_n (lv' := [(2, .ref q9), (0, .ref qh0), (1, .int x)]) hx hb dL_exceptionDay_6 rfl hl (by decide) rfl (fun ls hl => ?_)
      refine lv_ldc hx hb hown (hts _ u_704) dL_exceptionDay_7 ?_
      exact w_ret (u := (-900001 : Int32)) hx hb hr hlk rfl hS rfl hF.symm hP hD (Nat.le_of_ble_eq_true rfl) (Nat.le_of_ble_eq_true rfl) dL_exceptionDay_9
    · have hF := hF.trans (if_neg c_2)
      have hok := Eq.mp (if_neg c_2) hok
      exact hok.elim
  · have hE := b_1.1
    have b_1 := b_1.2
    have hF := hF.trans (if_pos hE)
    have hok := Eq.mp (if_pos hE) hok
    exact w_ret (u := (f_X9_exceptionDay q v x).2) hx hb hr hlk rfl hS rfl hF.symm hP hD (Nat.le_of_ble_eq_true rfl) (Nat.le_of_ble_eq_true rfl) dL_exceptionDay_5
theorem dL_addPerson_0 : decode cL_addPerson 0 = .ok (.aload_n 0, 1) := by decide +kernel
theorem dL_addPerson_1 : decode cL_addPerson 1 = .ok (.invokevirtual 44, 3) := by decide +kernel
theorem u_711 : Cond.methodLink RL 44 yX9_addPerson ∈ UW := uw 711 (by decide +kernel) rfl
theorem u_712 : Cond.instanceMethod yX9_addPerson ∈ UW := uw 712 (by decide +kernel) rfl
theorem u_713 : Cond.selects RX9 yX9_addPerson yX9_addPerson ∈ UW := uw 713 (by decide +kernel) rfl
theorem u_714 : Cond.code yX9_addPerson cX9_addPerson 1 (some .int) ∈ UW := uw 714 (by decide +kernel) rfl
theorem g_L_44 : GoodIn UW (wsV RL 44 RX9 yX9_addPerson (wsU yX9_addPerson cX9_addPerson 1 (some .int))) := gV u_711 u_712 u_713 u_21 u_714
theorem hdv_X9_addPerson : yX9_addPerson.cls = RX9 ∧ yX9_addPerson.cls ≠ "java/lang/invoke/MethodHandle" ∧ yX9_addPerson.cls ≠ "java/lang/invoke/VarHandle" ∧ (parseMethodDescriptor yX9_addPerson.desc).map (fun d => d.parameters.length) = some 0 := by decide +kernel
theorem dL_addPerson_4 : decode cL_addPerson 4 = .ok (.ireturn, 1) := by decide +kernel
theorem dL_addPerson_5 : decode cL_addPerson 5 = .ok (.astore_n 1, 1) := by decide +kernel
theorem dL_addPerson_6 : decode cL_addPerson 6 = .ok (.ldc 17, 2) := by decide +kernel
theorem dL_addPerson_8 : decode cL_addPerson 8 = .ok (.ireturn, 1) := by decide +kernel
set_option maxHeartbeats 8000000 in
set_option maxRecDepth 100000 in
set_option linter.constructorNameAsVariable false in
theorem c_L_addPerson (l : Launch) (hlf : l.stackTraces = false) (G : GG) (qh0 : Nat) (q_snapshot : Nat) (q_program : Nat) (q_notice : Nat) (va : Nat → Nat) (hih0 : Nat) (hsh : Nat) (hsa : Nat → Nat → Nat) (sz : Nat) (q : McV) (v : StV) (hi : HiV) (hs : Nat → StV) (hok : ok_L_addPerson q v hi hs) : wMetH l yL_addPerson cL_addPerson 2 (some .int) [(0, 4, 5, 18)] 9 1 6 G (fl [[(qh0, .inr (11, [.ref (va 0), .ref q_snapshot, .int q.1, .ref hih0, .ref q_program, .ref q_notice, .int q.2.1, .int q.2.2]))], wSt G va v, [(hih0, .inr (7, [.int hi.1, .int hi.2, .ref hsh]))], wHs G hsh hsa hs]) [.ref qh0] sz (fun u : Int32 × StV × HiV × (Nat → StV) => some (.int u.1)) (fun u : Int32 × StV × HiV × (Nat → StV) => u = f_L_addPerson q v hi hs) (fun u : Int32 × StV × HiV × (Nat → StV) => fl [[(qh0, .inr (11, [.ref (va 0), .ref q_snapshot, .int q.1, .ref hih0, .ref q_program, .ref q_notice, .int q.2.1, .int q.2.2]))], wSt G va u.2.1, [(hih0, .inr (7, [.int u.2.2.1.1, .int u.2.2.1.2, .ref hsh]))], wHs G hsh hsa u.2.2.2]) := by
  refine w_startH (by decide +kernel) (Nat.le_of_ble_eq_true rfl) ?_
  intro p e s m below meth c A hx hb hr hml hts hown hlk hin hxt hP hD hA hK hST ls hl
  have hS : va_S A s.heap s.heap [] := va_S.rf
  have hown : s.vm.findClass RL = some m.cls := hown
  have hl : lv_has ls 2 [(0, .ref qh0)] := hl
  have hF : f_L_addPerson q v hi hs = (let uu_3 : String × Int32 × StV × HiV × (Nat → StV) := (f_X9_addPerson q v hi hs); (if uu_3.1 = "" then (uu_3.2.1, uu_3.2.2.1, uu_3.2.2.2.1, uu_3.2.2.2.2) else (if (f_X9_addPerson q v hi hs).1 = "java/lang/IllegalStateException" then ((-900001 : Int32), v, hi, hs) else (0, v, hi, hs)))) := rfl
  have hok : (nx9 hi.2 ∧ (let uu_3 : String × Int32 × StV × HiV × (Nat → StV) := (f_X9_addPerson q v hi hs); (if uu_3.1 = "" then True else (if (f_X9_addPerson q v hi hs).1 = "java/lang/IllegalStateException" then True else False)))) := hok
  refine lv_aload_n hx hb dL_addPerson_0 rfl (lv_at hl 0 rfl) ?_
  have k_1 := hok.1
  have hok := hok.2
  refine xw_V (own := RL) (cs := [[(qh0, .inr (11, [.ref (va 0), .ref q_snapshot, .int q.1, .ref hih0, .ref q_program, .ref q_notice, .int q.2.1, .int q.2.2]))], wSt G va v, [(hih0, .inr (7, [.int hi.1, .int hi.2, .ref hsh]))], wHs G hsh hsa hs]) (rs := []) (As := []) (rest := []) (c_X9_addPersonS l hlf G qh0 q_snapshot q_program q_notice va hih0 hsh hsa s.heap.size q v hi hs k_1) ⟨hx, hb, hml, hown, hts⟩ g_L_44 hdv_X9_addPerson hK hST hS hP hD hA [0, 1, 2, 3] [] rfl rfl rfl (k0 := 0) rfl rfl rfl ⟨Nat.le_of_ble_eq_true rfl, Nat.le_of_ble_eq_true rfl⟩ ⟨Nat.le_of_ble_eq_true rfl, Nat.le_of_ble_eq_true rfl⟩ rfl hl.1 rfl (Nat.le_of_ble_eq_true rfl) dL_addPerson_1 (fun E ce q9 H locs hE hP hS h3 h4 h5 => ?_) (fun uu_3 H locs huu hP hD hS => ?_)
  rotate_left
  obtain ⟨huu, b_2⟩ := huu
  rw [← huu] at b_2
  have euu_3 := huu
  have hP : va_P G.1 vwCl (fl [[(qh0, .inr (11, [.ref (va 0), .ref q_snapshot, .int q.1, .ref hih0, .ref q_program, .ref q_notice, .int q.2.1, .int q.2.2]))], wSt G va uu_3.2.2.1, [(hih0, .inr (7, [.int uu_3.2.2.2.1.1, .int uu_3.2.2.2.1.2, .ref hsh]))], wHs G hsh hsa uu_3.2.2.2.2]) H := hP
  have hD : va_D A (fl [[(qh0, .inr (11, [.ref (va 0), .ref q_snapshot, .int q.1, .ref hih0, .ref q_program, .ref q_notice, .int q.2.1, .int q.2.2]))], wSt G va uu_3.2.2.1, [(hih0, .inr (7, [.int uu_3.2.2.2.1.1, .int uu_3.2.2.2.1.2, .ref hsh]))], wHs G hsh hsa uu_3.2.2.2.2]) := hD
  refine W.eq (g2 := F0 m 4 ls [.int uu_3.2.1]) rfl ?_
  have hE := b_2.1
  have hF : f_L_addPerson q v hi hs = (if uu_3.1 = "" then (uu_3.2.1, uu_3.2.2.1, uu_3.2.2.2.1, uu_3.2.2.2.2) else (if (f_X9_addPerson q v hi hs).1 = "java/lang/IllegalStateException" then ((-900001 : Int32), v, hi, hs) else (0, v, hi, hs))) := by subst euu_3; exact hF
  have hF := hF.trans (if_pos hE)
  have hok : (if uu_3.1 = "" then True else (if (f_X9_addPerson q v hi hs).1 = "java/lang/IllegalStateException" then True else False)) := by subst euu_3; exact hok
  have hok := Eq.mp (if_pos hE) hok
  exact w_ret (u := (uu_3.2.1, uu_3.2.2.1, uu_3.2.2.2.1, uu_3.2.2.2.2)) hx hb hr hlk rfl hS rfl hF.symm hP hD (Nat.le_of_ble_eq_true rfl) (Nat.le_of_ble_eq_true rfl) dL_addPerson_4
  have hF := hF.trans (if_neg (fun e => hE.2 (hE.1.trans e)))
  have hok := Eq.mp (if_neg (fun e => hE.2 (hE.1.trans e))) hok
  by_cases c_4 : (f_X9_addPerson q v hi hs).1 = "java/lang/IllegalStateException"
  · have hF := hF.trans (if_pos c_4)
    have hok := Eq.mp (if_pos c_4) hok
    have hEE : E = "java/lang/IllegalStateException" := hE.1.trans c_4
    subst hEE
    refine vx_catch (own := RL) (name := "java/lang/IllegalStateException") hown [] (⟨0, 4, 5, 18⟩ : ExceptionTableEntry) [] (hxt.trans rfl) (fun z hz => nomatch hz) (by decide) (by decide) (hts _ u_583) (va_tabs rfl rfl (hST.2.2.2.2.2.2.2.1 _ cst_IllegalStateException)) h3 h4 h5 ?_
    refine W.eq (g2 := F0 m 5 ls [.ref q9]) rfl ?_
    refine lv_astore_n (lv' := [(1, .ref q9), (0, .ref qh0)]) hx hb dL_addPerson_5 rfl hl (by decide) rfl (fun ls hl => ?_)
    refine lv_ldc hx hb hown (hts _ u_704) dL_addPerson_6 ?_
    exact w_ret (u := ((-900001 : Int32), v, hi, hs)) hx hb hr hlk rfl hS rfl hF.symm hP hD (Nat.le_of_ble_eq_true rfl) (Nat.le_of_ble_eq_true rfl) dL_addPerson_8
  · have hF := hF.trans (if_neg c_4)
    have hok := Eq.mp (if_neg c_4) hok
    exact hok.elim
theorem dL_giveKey_0 : decode cL_giveKey 0 = .ok (.aload_n 0, 1) := by decide +kernel
theorem dL_giveKey_1 : decode cL_giveKey 1 = .ok (.iload_n 1, 1) := by decide +kernel
theorem dL_giveKey_2 : decode cL_giveKey 2 = .ok (.iload_n 2, 1) := by decide +kernel
theorem dL_giveKey_3 : decode cL_giveKey 3 = .ok (.invokevirtual 48, 3) := by decide +kernel
theorem u_1150 : Cond.methodLink RL 48 yX9_giveKey ∈ UW := uw 1150 (by decide +kernel) rfl
theorem u_1151 : Cond.instanceMethod yX9_giveKey ∈ UW := uw 1151 (by decide +kernel) rfl
theorem u_1152 : Cond.selects RX9 yX9_giveKey yX9_giveKey ∈ UW := uw 1152 (by decide +kernel) rfl
theorem u_1153 : Cond.code yX9_giveKey cX9_giveKey 3 (some .int) ∈ UW := uw 1153 (by decide +kernel) rfl
theorem g_L_48 : GoodIn UW (wsV RL 48 RX9 yX9_giveKey (wsU yX9_giveKey cX9_giveKey 3 (some .int))) := gV u_1150 u_1151 u_1152 u_21 u_1153
theorem hdv_X9_giveKey : yX9_giveKey.cls = RX9 ∧ yX9_giveKey.cls ≠ "java/lang/invoke/MethodHandle" ∧ yX9_giveKey.cls ≠ "java/lang/invoke/VarHandle" ∧ (parseMethodDescriptor yX9_giveKey.desc).map (fun d => d.parameters.length) = some 2 := by decide +kernel
theorem dL_giveKey_6 : decode cL_giveKey 6 = .ok (.ireturn, 1) := by decide +kernel
theorem dL_giveKey_7 : decode cL_giveKey 7 = .ok (.astore_n 3, 1) := by decide +kernel
theorem dL_giveKey_8 : decode cL_giveKey 8 = .ok (.ldc 17, 2) := by decide +kernel
theorem dL_giveKey_10 : decode cL_giveKey 10 = .ok (.ireturn, 1) := by decide +kernel
theorem dL_giveKey_11 : decode cL_giveKey 11 = .ok (.astore_n 3, 1) := by decide +kernel
theorem dL_giveKey_12 : decode cL_giveKey 12 = .ok (.ldc 20, 2) := by decide +kernel
theorem dL_giveKey_14 : decode cL_giveKey 14 = .ok (.ireturn, 1) := by decide +kernel
theorem dL_giveKey_15 : decode cL_giveKey 15 = .ok (.astore_n 3, 1) := by decide +kernel
theorem dL_giveKey_16 : decode cL_giveKey 16 = .ok (.ldc 33, 2) := by decide +kernel
theorem dL_giveKey_18 : decode cL_giveKey 18 = .ok (.ireturn, 1) := by decide +kernel
set_option maxHeartbeats 8000000 in
set_option maxRecDepth 100000 in
set_option linter.constructorNameAsVariable false in
theorem c_L_giveKey (l : Launch) (hlf : l.stackTraces = false) (G : GG) (qh0 : Nat) (q_snapshot : Nat) (q_program : Nat) (q_notice : Nat) (va : Nat → Nat) (hih0 : Nat) (hsh : Nat) (hsa : Nat → Nat → Nat) (sz : Nat) (q : McV) (v : StV) (hi : HiV) (hs : Nat → StV) (ps : Int32) (ke : Int32) (hok : ok_L_giveKey q v hi hs ps ke) : wMetH l yL_giveKey cL_giveKey 4 (some .int) [(0, 6, 7, 25), (0, 6, 11, 15), (0, 6, 15, 18)] 10 1 6 G (fl [[(qh0, .inr (11, [.ref (va 0), .ref q_snapshot, .int q.1, .ref hih0, .ref q_program, .ref q_notice, .int q.2.1, .int q.2.2]))], wSt G va v, [(hih0, .inr (7, [.int hi.1, .int hi.2, .ref hsh]))], wHs G hsh hsa hs]) [.ref qh0, .int ps, .int ke] sz (fun u : Int32 × StV × HiV × (Nat → StV) => some (.int u.1)) (fun u : Int32 × StV × HiV × (Nat → StV) => u = f_L_giveKey q v hi hs ps ke) (fun u : Int32 × StV × HiV × (Nat → StV) => fl [[(qh0, .inr (11, [.ref (va 0), .ref q_snapshot, .int q.1, .ref hih0, .ref q_program, .ref q_notice, .int q.2.1, .int q.2.2]))], wSt G va u.2.1, [(hih0, .inr (7, [.int u.2.2.1.1, .int u.2.2.1.2, .ref hsh]))], wHs G hsh hsa u.2.2.2]) := by
  refine w_startH (by decide +kernel) (Nat.le_of_ble_eq_true rfl) ?_
  intro p e s m below meth c A hx hb hr hml hts hown hlk hin hxt hP hD hA hK hST ls hl
  have hS : va_S A s.heap s.heap [] := va_S.rf
  have hown : s.vm.findClass RL = some m.cls := hown
  have hl : lv_has ls 4 [(0, .ref qh0), (1, .int ps), (2, .int ke)] := hl
  have hF : f_L_giveKey q v hi hs ps ke = (let uu_3 : String × Int32 × StV × HiV × (Nat → StV) := (f_X9_giveKey q v hi hs ps ke); (if uu_3.1 = "" then (uu_3.2.1, uu_3.2.2.1, uu_3.2.2.2.1, uu_3.2.2.2.2) else (if (f_X9_giveKey q v hi hs ps ke).1 = "java/lang/IndexOutOfBoundsException" then ((-900001 : Int32), v, hi, hs) else (if (f_X9_giveKey q v hi hs ps ke).1 = "java/lang/IllegalArgumentException" then ((-900002 : Int32), v, hi, hs) else (if (f_X9_giveKey q v hi hs ps ke).1 = "java/lang/IllegalStateException" then ((-900003 : Int32), v, hi, hs) else (0, v, hi, hs)))))) := rfl
  have hok : (nx9 hi.2 ∧ (let uu_3 : String × Int32 × StV × HiV × (Nat → StV) := (f_X9_giveKey q v hi hs ps ke); (if uu_3.1 = "" then True else (if (f_X9_giveKey q v hi hs ps ke).1 = "java/lang/IndexOutOfBoundsException" then True else (if (f_X9_giveKey q v hi hs ps ke).1 = "java/lang/IllegalArgumentException" then True else (if (f_X9_giveKey q v hi hs ps ke).1 = "java/lang/IllegalStateException" then True else False)))))) := hok
  refine lv_aload_n hx hb dL_giveKey_0 rfl (lv_at hl 0 rfl) ?_
  refine lv_iload_n hx hb dL_giveKey_1 rfl (lv_at hl 1 rfl) ?_
  refine lv_iload_n hx hb dL_giveKey_2 rfl (lv_at hl 2 rfl) ?_
  have k_1 := hok.1
  have hok := hok.2
  refine xw_V (own := RL) (cs := [[(qh0, .inr (11, [.ref (va 0), .ref q_snapshot, .int q.1, .ref hih0, .ref q_program, .ref q_notice, .int q.2.1, .int q.2.2]))], wSt G va v, [(hih0, .inr (7, [.int hi.1, .int hi.2, .ref hsh]))], wHs G hsh hsa hs]) (rs := []) (As := [.int ps, .int ke]) (rest := []) (c_X9_giveKeyS l hlf G qh0 q_snapshot q_program q_notice va hih0 hsh hsa s.heap.size q v hi hs ps ke k_1) ⟨hx, hb, hml, hown, hts⟩ g_L_48 hdv_X9_giveKey hK hST hS hP hD hA [0, 1, 2, 3] [] rfl rfl rfl (k0 := 0) rfl rfl rfl ⟨Nat.le_of_ble_eq_true rfl, Nat.le_of_ble_eq_true rfl⟩ ⟨Nat.le_of_ble_eq_true rfl, Nat.le_of_ble_eq_true rfl⟩ rfl hl.1 rfl (Nat.le_of_ble_eq_true rfl) dL_giveKey_3 (fun E ce q9 H locs hE hP hS h3 h4 h5 => ?_) (fun uu_3 H locs huu hP hD hS => ?_)
  rotate_left
  obtain ⟨huu, b_2⟩ := huu
  rw [← huu] at b_2
  have euu_3 := huu
  have hP : va_P G.1 vwCl (fl [[(qh0, .inr (11, [.ref (va 0), .ref q_snapshot, .int q.1, .ref hih0, .ref q_program, .ref q_notice, .int q.2.1, .int q.2.2]))], wSt G va uu_3.2.2.1, [(hih0, .inr (7, [.int uu_3.2.2.2.1.1, .int uu_3.2.2.2.1.2, .ref hsh]))], wHs G hsh hsa uu_3.2.2.2.2]) H := hP
  have hD : va_D A (fl [[(qh0, .inr (11, [.ref (va 0), .ref q_snapshot, .int q.1, .ref hih0, .ref q_program, .ref q_notice, .int q.2.1, .int q.2.2]))], wSt G va uu_3.2.2.1, [(hih0, .inr (7, [.int uu_3.2.2.2.1.1, .int uu_3.2.2.2.1.2, .ref hsh]))], wHs G hsh hsa uu_3.2.2.2.2]) := hD
  refine W.eq (g2 := F0 m 6 ls [.int uu_3.2.1]) rfl ?_
  have hE := b_2.1
  have hF : f_L_giveKey q v hi hs ps ke = (if uu_3.1 = "" then (uu_3.2.1, uu_3.2.2.1, uu_3.2.2.2.1, uu_3.2.2.2.2) else (if (f_X9_giveKey q v hi hs ps ke).1 = "java/lang/IndexOutOfBoundsException" then ((-900001 : Int32), v, hi, hs) else (if (f_X9_giveKey q v hi hs ps ke).1 = "java/lang/IllegalArgumentException" then ((-900002 : Int32), v, hi, hs) else (if (f_X9_giveKey q v hi hs ps ke).1 = "java/lang/IllegalStateException" then ((-900003 : Int32), v, hi, hs) else (0, v, hi, hs))))) := by subst euu_3; exact hF
  have hF := hF.trans (if_pos hE)
  have hok : (if uu_3.1 = "" then True else (if (f_X9_giveKey q v hi hs ps ke).1 = "java/lang/IndexOutOfBoundsException" then True else (if (f_X9_giveKey q v hi hs ps ke).1 = "java/lang/IllegalArgumentException" then True else (if (f_X9_giveKey q v hi hs ps ke).1 = "java/lang/IllegalStateException" then True else False)))) := by subst euu_3; exact hok
  have hok := Eq.mp (if_pos hE) hok
  exact w_ret (u := (uu_3.2.1, uu_3.2.2.1, uu_3.2.2.2.1, uu_3.2.2.2.2)) hx hb hr hlk rfl hS rfl hF.symm hP hD (Nat.le_of_ble_eq_true rfl) (Nat.le_of_ble_eq_true rfl) dL_giveKey_6
  have hF := hF.trans (if_neg (fun e => hE.2 (hE.1.trans e)))
  have hok := Eq.mp (if_neg (fun e => hE.2 (hE.1.trans e))) hok
  by_cases c_4 : (f_X9_giveKey q v hi hs ps ke).1 = "java/lang/IndexOutOfBoundsException"
  · have hF := hF.trans (if_pos c_4)
    have hok := Eq.mp (if_pos c_4) hok
    have hEE : E = "java/lang/IndexOutOfBoundsException" := hE.1.trans c_4
    subst hEE
    refine vx_catch (own := RL) (name := "java/lang/IndexOutOfBoundsException") hown [] (⟨0, 6, 7, 25⟩ : ExceptionTableEntry) [(⟨0, 6, 11, 15⟩ : ExceptionTableEntry), (⟨0, 6, 15, 18⟩ : ExceptionTableEntry)] (hxt.trans rfl) (fun z hz => nomatch hz) (by decide) (by decide) (hts _ u_578) (va_tabs rfl rfl (hST.2.2.2.2.2.2.2.1 _ cst_IndexOutOfBoundsException)) h3 h4 h5 ?_
    refine W.eq (g2 := F0 m 7 ls [.ref q9]) rfl ?_
    refine lv_astore_n (lv' := [(3, .ref q9), (0, .ref qh0), (1, .int ps), (2, .int ke)]) hx hb dL_giveKey_7 rfl hl (by decide) rfl (fun ls hl => ?_)
    refine lv_ldc hx hb hown (hts _ u_704) dL_giveKey_8 ?_
    exact w_ret (u := ((-900001 : Int32), v, hi, hs)) hx hb hr hlk rfl hS rfl hF.symm hP hD (Nat.le_of_ble_eq_true rfl) (Nat.le_of_ble_eq_true rfl) dL_giveKey_10
  · have hF := hF.trans (if_neg c_4)
    have hok := Eq.mp (if_neg c_4) hok
    by_cases c_5 : (f_X9_giveKey q v hi hs ps ke).1 = "java/lang/IllegalArgumentException"
    · have hF := hF.trans (if_pos c_5)
      have hok := Eq.mp (if_pos c_5) hok
      have hEE : E = "java/lang/IllegalArgumentException" := hE.1.trans c_5
      subst hEE
      refine vx_catch (own := RL) (name := "java/lang/IllegalArgumentException") hown [(⟨0, 6, 7, 25⟩ : ExceptionTableEntry)] (⟨0, 6, 11, 15⟩ : ExceptionTableEntry) [(⟨0, 6, 15, 18⟩ : ExceptionTableEntry)] (hxt.trans rfl) (List.forall_mem_cons.mpr ⟨Or.inr ⟨by decide, "java/lang/IndexOutOfBoundsException", hts _ u_578, hST.2.2.2.2.2.2.2.2.1 ("java/lang/IllegalArgumentException", "java/lang/IndexOutOfBoundsException") (by decide +kernel)⟩, fun _ h => nomatch h⟩) (by decide) (by decide) (hts _ u_581) (va_tabs rfl rfl (hST.2.2.2.2.2.2.2.1 _ cst_IllegalArgumentException)) h3 h4 h5 ?_
      refine W.eq (g2 := F0 m 11 ls [.ref q9]) rfl ?_
      refine lv_astore_n (lv' := [(3, .ref q9), (0, .ref qh0), (1, .int ps), (2, .int ke)]) hx hb dL_giveKey_11 rfl hl (by decide) rfl (fun ls hl => ?_)
      refine lv_ldc hx hb hown (hts _ u_705) dL_giveKey_12 ?_
      exact w_ret (u := ((-900002 : Int32), v, hi, hs)) hx hb hr hlk rfl hS rfl hF.symm hP hD (Nat.le_of_ble_eq_true rfl) (Nat.le_of_ble_eq_true rfl) dL_giveKey_14
    · have hF := hF.trans (if_neg c_5)
      have hok := Eq.mp (if_neg c_5) hok
      by_cases c_6 : (f_X9_giveKey q v hi hs ps ke).1 = "java/lang/IllegalStateException"
      · have hF := hF.trans (if_pos c_6)
        have hok := Eq.mp (if_pos c_6) hok
        have hEE : E = "java/lang/IllegalStateException" := hE.1.trans c_6
        subst hEE
        refine vx_catch (own := RL) (name := "java/lang/IllegalStateException") hown [(⟨0, 6, 7, 25⟩ : ExceptionTableEntry), (⟨0, 6, 11, 15⟩ : ExceptionTableEntry)] (⟨0, 6, 15, 18⟩ : ExceptionTableEntry) [] (hxt.trans rfl) (List.forall_mem_cons.mpr ⟨Or.inr ⟨by decide, "java/lang/IndexOutOfBoundsException", hts _ u_578, hST.2.2.2.2.2.2.2.2.1 ("java/lang/IllegalStateException", "java/lang/IndexOutOfBoundsException") (by decide +kernel)⟩, List.forall_mem_cons.mpr ⟨Or.inr ⟨by decide, "java/lang/IllegalArgumentException", hts _ u_581, hST.2.2.2.2.2.2.2.2.1 ("java/lang/IllegalStateException", "java/lang/IllegalArgumentException") (by decide +kernel)⟩, fun _ h => nomatch h⟩⟩) (by decide) (by decide) (hts _ u_583) (va_tabs rfl rfl (hST.2.2.2.2.2.2.2.1 _ cst_IllegalStateException)) h3 h4 h5 ?_
        refine W.eq (g2 := F0 m 15 ls [.ref q9]) rfl ?_
        refine lv_astore_n (lv' := [(3, .ref q9), (0, .ref qh0), (1, .int ps), (2, .int ke)]) hx hb dL_giveKey_15 rfl hl (by decide) rfl (fun ls hl => ?_)
        refine lv_ldc hx hb hown (hts _ u_706) dL_giveKey_16 ?_
        exact w_ret (u := ((-900003 : Int32), v, hi, hs)) hx hb hr hlk rfl hS rfl hF.symm hP hD (Nat.le_of_ble_eq_true rfl) (Nat.le_of_ble_eq_true rfl) dL_giveKey_18
      · have hF := hF.trans (if_neg c_6)
        have hok := Eq.mp (if_neg c_6) hok
        exact hok.elim
theorem dL_takeKey_0 : decode cL_takeKey 0 = .ok (.aload_n 0, 1) := by decide +kernel
theorem dL_takeKey_1 : decode cL_takeKey 1 = .ok (.iload_n 1, 1) := by decide +kernel
theorem dL_takeKey_2 : decode cL_takeKey 2 = .ok (.iload_n 2, 1) := by decide +kernel
theorem dL_takeKey_3 : decode cL_takeKey 3 = .ok (.invokevirtual 52, 3) := by decide +kernel
theorem u_1237 : Cond.methodLink RL 52 yX9_takeKey ∈ UW := uw 1237 (by decide +kernel) rfl
theorem u_1238 : Cond.instanceMethod yX9_takeKey ∈ UW := uw 1238 (by decide +kernel) rfl
theorem u_1239 : Cond.selects RX9 yX9_takeKey yX9_takeKey ∈ UW := uw 1239 (by decide +kernel) rfl
theorem u_1240 : Cond.code yX9_takeKey cX9_takeKey 3 (some .int) ∈ UW := uw 1240 (by decide +kernel) rfl
theorem g_L_52 : GoodIn UW (wsV RL 52 RX9 yX9_takeKey (wsU yX9_takeKey cX9_takeKey 3 (some .int))) := gV u_1237 u_1238 u_1239 u_21 u_1240
theorem hdv_X9_takeKey : yX9_takeKey.cls = RX9 ∧ yX9_takeKey.cls ≠ "java/lang/invoke/MethodHandle" ∧ yX9_takeKey.cls ≠ "java/lang/invoke/VarHandle" ∧ (parseMethodDescriptor yX9_takeKey.desc).map (fun d => d.parameters.length) = some 2 := by decide +kernel
theorem dL_takeKey_6 : decode cL_takeKey 6 = .ok (.ireturn, 1) := by decide +kernel
theorem dL_takeKey_7 : decode cL_takeKey 7 = .ok (.astore_n 3, 1) := by decide +kernel
theorem dL_takeKey_8 : decode cL_takeKey 8 = .ok (.ldc 17, 2) := by decide +kernel
theorem dL_takeKey_10 : decode cL_takeKey 10 = .ok (.ireturn, 1) := by decide +kernel
theorem dL_takeKey_11 : decode cL_takeKey 11 = .ok (.astore_n 3, 1) := by decide +kernel
theorem dL_takeKey_12 : decode cL_takeKey 12 = .ok (.ldc 20, 2) := by decide +kernel
theorem dL_takeKey_14 : decode cL_takeKey 14 = .ok (.ireturn, 1) := by decide +kernel
set_option maxHeartbeats 8000000 in
set_option maxRecDepth 100000 in
set_option linter.constructorNameAsVariable false in
theorem c_L_takeKey (l : Launch) (hlf : l.stackTraces = false) (G : GG) (qh0 : Nat) (q_snapshot : Nat) (q_program : Nat) (q_notice : Nat) (va : Nat → Nat) (hih0 : Nat) (hsh : Nat) (hsa : Nat → Nat → Nat) (sz : Nat) (q : McV) (v : StV) (hi : HiV) (hs : Nat → StV) (ps : Int32) (ke : Int32) (hok : ok_L_takeKey q v hi hs ps ke) : wMetH l yL_takeKey cL_takeKey 4 (some .int) [(0, 6, 7, 25), (0, 6, 11, 39)] 10 1 6 G (fl [[(qh0, .inr (11, [.ref (va 0), .ref q_snapshot, .int q.1, .ref hih0, .ref q_program, .ref q_notice, .int q.2.1, .int q.2.2]))], wSt G va v, [(hih0, .inr (7, [.int hi.1, .int hi.2, .ref hsh]))], wHs G hsh hsa hs]) [.ref qh0, .int ps, .int ke] sz (fun u : Int32 × StV × HiV × (Nat → StV) => some (.int u.1)) (fun u : Int32 × StV × HiV × (Nat → StV) => u = f_L_takeKey q v hi hs ps ke) (fun u : Int32 × StV × HiV × (Nat → StV) => fl [[(qh0, .inr (11, [.ref (va 0), .ref q_snapshot, .int q.1, .ref hih0, .ref q_program, .ref q_notice, .int q.2.1, .int q.2.2]))], wSt G va u.2.1, [(hih0, .inr (7, [.int u.2.2.1.1, .int u.2.2.1.2, .ref hsh]))], wHs G hsh hsa u.2.2.2]) := by
  refine w_startH (by decide +kernel) (Nat.le_of_ble_eq_true rfl) ?_
  intro p e s m below meth c A hx hb hr hml hts hown hlk hin hxt hP hD hA hK hST ls hl
  have hS : va_S A s.heap s.heap [] := va_S.rf
  have hown : s.vm.findClass RL = some m.cls := hown
  have hl : lv_has ls 4 [(0, .ref qh0), (1, .int ps), (2, .int ke)] := hl
  have hF : f_L_takeKey q v hi hs ps ke = (let uu_3 : String × Int32 × StV × HiV × (Nat → StV) := (f_X9_takeKey q v hi hs ps ke); (if uu_3.1 = "" then (uu_3.2.1, uu_3.2.2.1, uu_3.2.2.2.1, uu_3.2.2.2.2) else (if (f_X9_takeKey q v hi hs ps ke).1 = "java/lang/IndexOutOfBoundsException" then ((-900001 : Int32), v, hi, hs) else (if (f_X9_takeKey q v hi hs ps ke).1 = "java/util/NoSuchElementException" then ((-900002 : Int32), v, hi, hs) else (0, v, hi, hs))))) := rfl
  have hok : (nx9 hi.2 ∧ (let uu_3 : String × Int32 × StV × HiV × (Nat → StV) := (f_X9_takeKey q v hi hs ps ke); (if uu_3.1 = "" then True else (if (f_X9_takeKey q v hi hs ps ke).1 = "java/lang/IndexOutOfBoundsException" then True else (if (f_X9_takeKey q v hi hs ps ke).1 = "java/util/NoSuchElementException" then True else False))))) := hok
  refine lv_aload_n hx hb dL_takeKey_0 rfl (lv_at hl 0 rfl) ?_
  refine lv_iload_n hx hb dL_takeKey_1 rfl (lv_at hl 1 rfl) ?_
  refine lv_iload_n hx hb dL_takeKey_2 rfl (lv_at hl 2 rfl) ?_
  have k_1 := hok.1
  have hok := hok.2
  refine xw_V (own := RL) (cs := [[(qh0, .inr (11, [.ref (va 0), .ref q_snapshot, .int q.1, .ref hih0, .ref q_program, .ref q_notice, .int q.2.1, .int q.2.2]))], wSt G va v, [(hih0, .inr (7, [.int hi.1, .int hi.2, .ref hsh]))], wHs G hsh hsa hs]) (rs := []) (As := [.int ps, .int ke]) (rest := []) (c_X9_takeKeyS l hlf G qh0 q_snapshot q_program q_notice va hih0 hsh hsa s.heap.size q v hi hs ps ke k_1) ⟨hx, hb, hml, hown, hts⟩ g_L_52 hdv_X9_takeKey hK hST hS hP hD hA [0, 1, 2, 3] [] rfl rfl rfl (k0 := 0) rfl rfl rfl ⟨Nat.le_of_ble_eq_true rfl, Nat.le_of_ble_eq_true rfl⟩ ⟨Nat.le_of_ble_eq_true rfl, Nat.le_of_ble_eq_true rfl⟩ rfl hl.1 rfl (Nat.le_of_ble_eq_true rfl) dL_takeKey_3 (fun E ce q9 H locs hE hP hS h3 h4 h5 => ?_) (fun uu_3 H locs huu hP hD hS => ?_)
  rotate_left
  obtain ⟨huu, b_2⟩ := huu
  rw [← huu] at b_2
  have euu_3 := huu
  have hP : va_P G.1 vwCl (fl [[(qh0, .inr (11, [.ref (va 0), .ref q_snapshot, .int q.1, .ref hih0, .ref q_program, .ref q_notice, .int q.2.1, .int q.2.2]))], wSt G va uu_3.2.2.1, [(hih0, .inr (7, [.int uu_3.2.2.2.1.1, .int uu_3.2.2.2.1.2, .ref hsh]))], wHs G hsh hsa uu_3.2.2.2.2]) H := hP
  have hD : va_D A (fl [[(qh0, .inr (11, [.ref (va 0), .ref q_snapshot, .int q.1, .ref hih0, .ref q_program, .ref q_notice, .int q.2.1, .int q.2.2]))], wSt G va uu_3.2.2.1, [(hih0, .inr (7, [.int uu_3.2.2.2.1.1, .int uu_3.2.2.2.1.2, .ref hsh]))], wHs G hsh hsa uu_3.2.2.2.2]) := hD
  refine W.eq (g2 := F0 m 6 ls [.int uu_3.2.1]) rfl ?_
  have hE := b_2.1
  have hF : f_L_takeKey q v hi hs ps ke = (if uu_3.1 = "" then (uu_3.2.1, uu_3.2.2.1, uu_3.2.2.2.1, uu_3.2.2.2.2) else (if (f_X9_takeKey q v hi hs ps ke).1 = "java/lang/IndexOutOfBoundsException" then ((-900001 : Int32), v, hi, hs) else (if (f_X9_takeKey q v hi hs ps ke).1 = "java/util/NoSuchElementException" then ((-900002 : Int32), v, hi, hs) else (0, v, hi, hs)))) := by subst euu_3; exact hF
  have hF := hF.trans (if_pos hE)
  have hok : (if uu_3.1 = "" then True else (if (f_X9_takeKey q v hi hs ps ke).1 = "java/lang/IndexOutOfBoundsException" then True else (if (f_X9_takeKey q v hi hs ps ke).1 = "java/util/NoSuchElementException" then True else False))) := by subst euu_3; exact hok
  have hok := Eq.mp (if_pos hE) hok
  exact w_ret (u := (uu_3.2.1, uu_3.2.2.1, uu_3.2.2.2.1, uu_3.2.2.2.2)) hx hb hr hlk rfl hS rfl hF.symm hP hD (Nat.le_of_ble_eq_true rfl) (Nat.le_of_ble_eq_true rfl) dL_takeKey_6
  have hF := hF.trans (if_neg (fun e => hE.2 (hE.1.trans e)))
  have hok := Eq.mp (if_neg (fun e => hE.2 (hE.1.trans e))) hok
  by_cases c_4 : (f_X9_takeKey q v hi hs ps ke).1 = "java/lang/IndexOutOfBoundsException"
  · have hF := hF.trans (if_pos c_4)
    have hok := Eq.mp (if_pos c_4) hok
    have hEE : E = "java/lang/IndexOutOfBoundsException" := hE.1.trans c_4
    subst hEE
    refine vx_catch (own := RL) (name := "java/lang/IndexOutOfBoundsException") hown [] (⟨0, 6, 7, 25⟩ : ExceptionTableEntry) [(⟨0, 6, 11, 39⟩ : ExceptionTableEntry)] (hxt.trans rfl) (fun z hz => nomatch hz) (by decide) (by decide) (hts _ u_578) (va_tabs rfl rfl (hST.2.2.2.2.2.2.2.1 _ cst_IndexOutOfBoundsException)) h3 h4 h5 ?_
    refine W.eq (g2 := F0 m 7 ls [.ref q9]) rfl ?_
    refine lv_astore_n (lv' := [(3, .ref q9), (0, .ref qh0), (1, .int ps), (2, .int ke)]) hx hb dL_takeKey_7 rfl hl (by decide) rfl (fun ls hl => ?_)
    refine lv_ldc hx hb hown (hts _ u_704) dL_takeKey_8 ?_
    exact w_ret (u := ((-900001 : Int32), v, hi, hs)) hx hb hr hlk rfl hS rfl hF.symm hP hD (Nat.le_of_ble_eq_true rfl) (Nat.le_of_ble_eq_true rfl) dL_takeKey_10
  · have hF := hF.trans (if_neg c_4)
    have hok := Eq.mp (if_neg c_4) hok
    by_cases c_5 : (f_X9_takeKey q v hi hs ps ke).1 = "java/util/NoSuchElementException"
    · have hF := hF.trans (if_pos c_5)
      have hok := Eq.mp (if_pos c_5) hok
      have hEE : E = "java/util/NoSuchElementException" := hE.1.trans c_5
      subst hEE
      refine vx_catch (own := RL) (name := "java/util/NoSuchElementException") hown [(⟨0, 6, 7, 25⟩ : ExceptionTableEntry)] (⟨0, 6, 11, 39⟩ : ExceptionTableEntry) [] (hxt.trans rfl) (List.forall_mem_cons.mpr ⟨Or.inr ⟨by decide, "java/lang/IndexOutOfBoundsException", hts _ u_578, hST.2.2.2.2.2.2.2.2.1 ("java/util/NoSuchElementException", "java/lang/IndexOutOfBoundsException") (by decide +kernel)⟩, fun _ h => nomatch h⟩) (by decide) (by decide) (hts _ u_840) (va_tabs rfl rfl (hST.2.2.2.2.2.2.2.1 _ cst_NoSuchElementException)) h3 h4 h5 ?_
      refine W.eq (g2 := F0 m 11 ls [.ref q9]) rfl ?_
      refine lv_astore_n (lv' := [(3, .ref q9), (0, .ref qh0), (1, .int ps), (2, .int ke)]) hx hb dL_takeKey_11 rfl hl (by decide) rfl (fun ls hl => ?_)
      refine lv_ldc hx hb hown (hts _ u_705) dL_takeKey_12 ?_
      exact w_ret (u := ((-900002 : Int32), v, hi, hs)) hx hb hr hlk rfl hS rfl hF.symm hP hD (Nat.le_of_ble_eq_true rfl) (Nat.le_of_ble_eq_true rfl) dL_takeKey_14
    · have hF := hF.trans (if_neg c_5)
      have hok := Eq.mp (if_neg c_5) hok
      exact hok.elim
