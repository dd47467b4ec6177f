theorem dL_loggedPerson_0 : decode cL_loggedPerson 0 = .ok (.aload_n 2, 1) := by decide +kernel
theorem dL_loggedPerson_1 : decode cL_loggedPerson 1 = .ok (.iconst 0, 1) := by decide +kernel
theorem dL_loggedPerson_2 : decode cL_loggedPerson 2 = .ok (.aload_n 0, 1) := by decide +kernel
theorem dL_loggedPerson_3 : decode cL_loggedPerson 3 = .ok (.iload_n 1, 1) := by decide +kernel
theorem dL_loggedPerson_4 : decode cL_loggedPerson 4 = .ok (.invokevirtual 123, 3) := by decide +kernel
theorem u_1123 : Cond.methodLink RL 123 yX9_loggedPerson ∈ UW := uw 1123 (by decide +kernel) rfl
theorem u_1124 : Cond.instanceMethod yX9_loggedPerson ∈ UW := uw 1124 (by decide +kernel) rfl
theorem u_1125 : Cond.selects RX9 yX9_loggedPerson yX9_loggedPerson ∈ UW := uw 1125 (by decide +kernel) rfl
theorem u_1126 : Cond.code yX9_loggedPerson cX9_loggedPerson 2 (some .int) ∈ UW := uw 1126 (by decide +kernel) rfl
theorem g_L_123 : GoodIn UW (wsV RL 123 RX9 yX9_loggedPerson (wsU yX9_loggedPerson cX9_loggedPerson 2 (some .int))) := gV u_1123 u_1124 u_1125 u_65 u_1126
theorem hdv_X9_loggedPerson : yX9_loggedPerson.cls = RX9 ∧ yX9_loggedPerson.cls ≠ "java/lang/invoke/MethodHandle" ∧ yX9_loggedPerson.cls ≠ "java/lang/invoke/VarHandle" ∧ (parseMethodDescriptor yX9_loggedPerson.desc).map (fun d => d.parameters.length) = some 1 := by decide +kernel
theorem dL_loggedPerson_12 : decode cL_loggedPerson 12 = .ok (.astore_n 3, 1) := by decide +kernel
theorem dL_loggedPerson_13 : decode cL_loggedPerson 13 = .ok (.iconst 1, 1) := by decide +kernel
theorem dL_loggedPerson_14 : decode cL_loggedPerson 14 = .ok (.ireturn, 1) := by decide +kernel
theorem dL_loggedPerson_7 : decode cL_loggedPerson 7 = .ok (.i2l, 1) := by decide +kernel
theorem dL_loggedPerson_8 : decode cL_loggedPerson 8 = .ok (.lastore, 1) := by decide +kernel
theorem dL_loggedPerson_9 : decode cL_loggedPerson 9 = .ok (.goto 6, 3) := by decide +kernel
theorem dL_loggedPerson_15 : decode cL_loggedPerson 15 = .ok (.iconst 0, 1) := by decide +kernel
theorem dL_loggedPerson_16 : decode cL_loggedPerson 16 = .ok (.ireturn, 1) := by decide +kernel
def f_L_loggedPerson (q : McV) (v : StV) (x : Int32) (ow : Nat → Int64) : Int32 × (Nat → Int64) := (if (f_X9_loggedPerson q v x).1 = "" then ((0 : Int32), (vp_updL ow (0 : Int32).toNatClampNeg (((f_X9_loggedPerson q v x).2).toInt64))) else (if (f_X9_loggedPerson q v x).1 = "java/util/NoSuchElementException" then ((1 : Int32), ow) else (0, ow)))
def ok_L_loggedPerson (q : McV) (v : StV) (x : Int32) (ow : Nat → Int64) : Prop := (if (f_X9_loggedPerson q v x).1 = "" then True else (if (f_X9_loggedPerson q v x).1 = "java/util/NoSuchElementException" then True else False))
set_option maxHeartbeats 8000000 in
set_option maxRecDepth 100000 in
set_option linter.constructorNameAsVariable false in
theorem c_L_loggedPerson (l : Launch) (hlf : l.stackTraces = false) (G : GG) (qh0 : Nat) (q_snapshot : Nat) (q_history : Nat) (q_program : Nat) (q_notice : Nat) (va : Nat → Nat) (owh : Nat) (sz : Nat) (q : McV) (v : StV) (x : Int32) (ow : Nat → Int64) (hok : ok_L_loggedPerson q v x ow) : wMetH l yL_loggedPerson cL_loggedPerson 4 (some .int) [(0, 9, 12, 33)] 10 1 6 G (fl [[(qh0, .inr (11, [.ref (va 0), .ref q_snapshot, .int q.1, .ref q_history, .ref q_program, .ref q_notice, .int q.2.1, .int q.2.2]))], wSt G va v, [(owh, .inl (G.2.1 3, 1, .inr (.inl ow)))]]) [.ref qh0, .int x, .ref owh] sz (fun u : Int32 × (Nat → Int64) => some (.int u.1)) (fun u : Int32 × (Nat → Int64) => u = f_L_loggedPerson q v x ow) (fun u : Int32 × (Nat → Int64) => fl [[(qh0, .inr (11, [.ref (va 0), .ref q_snapshot, .int q.1, .ref q_history, .ref q_program, .ref q_notice, .int q.2.1, .int q.2.2]))], wSt G va v, [(owh, .inl (G.2.1 3, 1, .inr (.inl u.2)))]]) := by
  refine w_startH (by decide +kernel) (Nat.le_of_ble_eq_true rfl) ?_
  intro p e s m below meth c A hx hb hr hml hts hown hlk hin hxt hP hD hA hK hST ls hl
  have hS : va_S A s.heap s.heap [] := va_S.rf
  have hown : s.vm.findClass RL = some m.cls := hown
  have hl : lv_has ls 4 [(0, .ref qh0), (1, .int x), (2, .ref owh)] := hl
  have hF : f_L_loggedPerson q v x ow = (if (f_X9_loggedPerson q v x).1 = "" then ((0 : Int32), (vp_updL ow (0 : Int32).toNatClampNeg (((f_X9_loggedPerson q v x).2).toInt64))) else (if (f_X9_loggedPerson q v x).1 = "java/util/NoSuchElementException" then ((1 : Int32), ow) else (0, ow))) := rfl
  have hok : (if (f_X9_loggedPerson q v x).1 = "" then True else (if (f_X9_loggedPerson q v x).1 = "java/util/NoSuchElementException" then True else False)) := hok
  refine lv_aload_n hx hb dL_loggedPerson_0 rfl (lv_at hl 2 rfl) ?_
  refine lv_iconst (v := (0 : Int32)) hx hb dL_loggedPerson_1 (by decide) ?_
  refine lv_aload_n hx hb dL_loggedPerson_2 rfl (lv_at hl 0 rfl) ?_
  refine lv_iload_n hx hb dL_loggedPerson_3 rfl (lv_at hl 1 rfl) ?_
  refine xr_V (own := RL) (v := (some (.int ((f_X9_loggedPerson q v x).2)))) (st1 := [.int ((f_X9_loggedPerson q v x).2), .int (0 : Int32), .ref owh]) (As := [.int x]) (rest := [.int (0 : Int32), .ref owh]) (c_X9_loggedPersonS l hlf G qh0 q_snapshot q_history q_program q_notice va q v x) ⟨hx, hb, hml, hown, hts⟩ g_L_123 hdv_X9_loggedPerson hK hST hS hP [0, 1, 2, 3, 4, 5, 6, 7, 8, 9, 10, 11, 12, 13, 14, 15, 16, 17, 18, 19, 20] rfl (k0 := 0) rfl rfl rfl ⟨Nat.le_of_ble_eq_true rfl, Nat.le_of_ble_eq_true rfl⟩ ⟨Nat.le_of_ble_eq_true rfl, Nat.le_of_ble_eq_true rfl⟩ rfl hl.1 rfl (Nat.le_of_ble_eq_true rfl) dL_loggedPerson_4 rfl (fun E ce q9 H hE h1 h2 h3 h4 h5 => ?_) (fun b_1 => ?_)
  · have hF := hF.trans (if_neg (fun e => hE.2 (hE.1.trans e)))
    have hok := Eq.mp (if_neg (fun e => hE.2 (hE.1.trans e))) hok
    have hP := hP.kept (fun k q hk => h2 q.1 ((hP k q hk).lt))
    have hS : va_S A s.heap H _ := ⟨Nat.le_trans hS.1 h1, fun q hq hA => (h2 q (Nat.lt_of_lt_of_le hq hS.1)).trans (hS.2.1 q hq hA), hS.2.2⟩
    by_cases c_2 : (f_X9_loggedPerson q v x).1 = "java/util/NoSuchElementException"
    · have hF := hF.trans (if_pos c_2)
      have hok := Eq.mp (if_pos c_2) hok
      have hEE : E = "java/util/NoSuchElementException" := hE.1.trans c_2
      subst hEE
      refine vx_catch (own := RL) (name := "java/util/NoSuchElementException") hown [] (⟨0, 9, 12, 33⟩ : ExceptionTableEntry) [] (hxt.trans rfl) (fun z hz => nomatch hz) (by decide) (by decide) (hts _ u_689) (va_tabs rfl rfl (hST.2.2.2.2.2.2.2.1 _ cst_NoSuchElementException)) h3 h4 h5 ?_
      refine W.eq (g2 := F0 m 12 ls [.ref q9]) rfl ?_
      refine lv_astore_n (lv' := [(3, .ref q9), (0, .ref qh0), (1, .int x), (2, .ref owh)]) hx hb dL_loggedPerson_12 rfl hl (by decide) rfl (fun ls hl => ?_)
      refine lv_iconst (v := (1 : Int32)) hx hb dL_loggedPerson_13 (by decide) ?_
      exact w_ret (u := ((1 : Int32), ow)) hx hb hr hlk rfl hS rfl hF.symm hP hD (Nat.le_of_ble_eq_true rfl) (Nat.le_of_ble_eq_true rfl) dL_loggedPerson_14
    · have hF := hF.trans (if_neg c_2)
      have hok := Eq.mp (if_neg c_2) hok
      exact hok.elim
  · have hE := b_1.1
    have b_1 := b_1.2
    have hF := hF.trans (if_pos hE)
    have hok := Eq.mp (if_pos hE) hok
    refine lv_i2l hx hb dL_loggedPerson_7 rfl ?_
    refine va_last hx hb hK hP hD hS 21 3 rfl rfl (vp_in_nI (n := 0) (by decide) (by decide)) dL_loggedPerson_8 (fun H locs hP hD hS => ?_)
    have hP : va_P G.1 vwCl (fl [[(qh0, .inr (11, [.ref (va 0), .ref q_snapshot, .int q.1, .ref q_history, .ref q_program, .ref q_notice, .int q.2.1, .int q.2.2]))], wSt G va v, [(owh, .inl (G.2.1 3, 1, .inr (.inl (vp_updL ow (0 : Int32).toNatClampNeg (((f_X9_loggedPerson q v x).2).toInt64)))))]]) H := hP
    have hD : va_D A (fl [[(qh0, .inr (11, [.ref (va 0), .ref q_snapshot, .int q.1, .ref q_history, .ref q_program, .ref q_notice, .int q.2.1, .int q.2.2]))], wSt G va v, [(owh, .inl (G.2.1 3, 1, .inr (.inl (vp_updL ow (0 : Int32).toNatClampNeg (((f_X9_loggedPerson q v x).2).toInt64)))))]]) := hD
    refine lv_goto (tgt := 15) hx hb dL_loggedPerson_9 (by decide) ?_
    refine lv_iconst (v := (0 : Int32)) hx hb dL_loggedPerson_15 (by decide) ?_
    exact w_ret (u := ((0 : Int32), (vp_updL ow (0 : Int32).toNatClampNeg (((f_X9_loggedPerson q v x).2).toInt64)))) hx hb hr hlk rfl hS rfl hF.symm hP hD (Nat.le_of_ble_eq_true rfl) (Nat.le_of_ble_eq_true rfl) dL_loggedPerson_16
theorem dL_loggedDoor_0 : decode cL_loggedDoor 0 = .ok (.aload_n 2, 1) := by decide +kernel
theorem dL_loggedDoor_1 : decode cL_loggedDoor 1 = .ok (.iconst 0, 1) := by decide +kernel
theorem dL_loggedDoor_2 : decode cL_loggedDoor 2 = .ok (.aload_n 0, 1) := by decide +kernel
theorem dL_loggedDoor_3 : decode cL_loggedDoor 3 = .ok (.iload_n 1, 1) := by decide +kernel
theorem dL_loggedDoor_4 : decode cL_loggedDoor 4 = .ok (.invokevirtual 126, 3) := by decide +kernel
theorem u_1142 : Cond.methodLink RL 126 yX9_loggedDoor ∈ UW := uw 1142 (by decide +kernel) rfl
theorem u_1143 : Cond.instanceMethod yX9_loggedDoor ∈ UW := uw 1143 (by decide +kernel) rfl
theorem u_1144 : Cond.selects RX9 yX9_loggedDoor yX9_loggedDoor ∈ UW := uw 1144 (by decide +kernel) rfl
theorem u_1145 : Cond.code yX9_loggedDoor cX9_loggedDoor 2 (some .int) ∈ UW := uw 1145 (by decide +kernel) rfl
theorem g_L_126 : GoodIn UW (wsV RL 126 RX9 yX9_loggedDoor (wsU yX9_loggedDoor cX9_loggedDoor 2 (some .int))) := gV u_1142 u_1143 u_1144 u_65 u_1145
theorem hdv_X9_loggedDoor : yX9_loggedDoor.cls = RX9 ∧ yX9_loggedDoor.cls ≠ "java/lang/invoke/MethodHandle" ∧ yX9_loggedDoor.cls ≠ "java/lang/invoke/VarHandle" ∧ (parseMethodDescriptor yX9_loggedDoor.desc).map (fun d => d.parameters.length) = some 1 := by decide +kernel
theorem dL_loggedDoor_12 : decode cL_loggedDoor 12 = .ok (.astore_n 3, 1) := by decide +kernel
theorem dL_loggedDoor_13 : decode cL_loggedDoor 13 = .ok (.iconst 1, 1) := by decide +kernel
theorem dL_loggedDoor_14 : decode cL_loggedDoor 14 = .ok (.ireturn, 1) := by decide +kernel
theorem dL_loggedDoor_7 : decode cL_loggedDoor 7 = .ok (.i2l, 1) := by decide +kernel
theorem dL_loggedDoor_8 : decode cL_loggedDoor 8 = .ok (.lastore, 1) := by decide +kernel
theorem dL_loggedDoor_9 : decode cL_loggedDoor 9 = .ok (.goto 6, 3) := by decide +kernel
theorem dL_loggedDoor_15 : decode cL_loggedDoor 15 = .ok (.iconst 0, 1) := by decide +kernel
theorem dL_loggedDoor_16 : decode cL_loggedDoor 16 = .ok (.ireturn, 1) := by decide +kernel
def f_L_loggedDoor (q : McV) (v : StV) (x : Int32) (ow : Nat → Int64) : Int32 × (Nat → Int64) := (if (f_X9_loggedDoor q v x).1 = "" then ((0 : Int32), (vp_updL ow (0 : Int32).toNatClampNeg (((f_X9_loggedDoor q v x).2).toInt64))) else (if (f_X9_loggedDoor q v x).1 = "java/util/NoSuchElementException" then ((1 : Int32), ow) else (0, ow)))
def ok_L_loggedDoor (q : McV) (v : StV) (x : Int32) (ow : Nat → Int64) : Prop := (if (f_X9_loggedDoor q v x).1 = "" then True else (if (f_X9_loggedDoor q v x).1 = "java/util/NoSuchElementException" then True else False))
set_option maxHeartbeats 8000000 in
set_option maxRecDepth 100000 in
set_option linter.constructorNameAsVariable false in
theorem c_L_loggedDoor (l : Launch) (hlf : l.stackTraces = false) (G : GG) (qh0 : Nat) (q_snapshot : Nat) (q_history : Nat) (q_program : Nat) (q_notice : Nat) (va : Nat → Nat) (owh : Nat) (sz : Nat) (q : McV) (v : StV) (x : Int32) (ow : Nat → Int64) (hok : ok_L_loggedDoor q v x ow) : wMetH l yL_loggedDoor cL_loggedDoor 4 (some .int) [(0, 9, 12, 33)] 10 1 6 G (fl [[(qh0, .inr (11, [.ref (va 0), .ref q_snapshot, .int q.1, .ref q_history, .ref q_program, .ref q_notice, .int q.2.1, .int q.2.2]))], wSt G va v, [(owh, .inl (G.2.1 3, 1, .inr (.inl ow)))]]) [.ref qh0, .int x, .ref owh] sz (fun u : Int32 × (Nat → Int64) => some (.int u.1)) (fun u : Int32 × (Nat → Int64) => u = f_L_loggedDoor q v x ow) (fun u : Int32 × (Nat → Int64) => fl [[(qh0, .inr (11, [.ref (va 0), .ref q_snapshot, .int q.1, .ref q_history, .ref q_program, .ref q_notice, .int q.2.1, .int q.2.2]))], wSt G va v, [(owh, .inl (G.2.1 3, 1, .inr (.inl u.2)))]]) := by
  refine w_startH (by decide +kernel) (Nat.le_of_ble_eq_true rfl) ?_
  intro p e s m below meth c A hx hb hr hml hts hown hlk hin hxt hP hD hA hK hST ls hl
  have hS : va_S A s.heap s.heap [] := va_S.rf
  have hown : s.vm.findClass RL = some m.cls := hown
  have hl : lv_has ls 4 [(0, .ref qh0), (1, .int x), (2, .ref owh)] := hl
  have hF : f_L_loggedDoor q v x ow = (if (f_X9_loggedDoor q v x).1 = "" then ((0 : Int32), (vp_updL ow (0 : Int32).toNatClampNeg (((f_X9_loggedDoor q v x).2).toInt64))) else (if (f_X9_loggedDoor q v x).1 = "java/util/NoSuchElementException" then ((1 : Int32), ow) else (0, ow))) := rfl
  have hok : (if (f_X9_loggedDoor q v x).1 = "" then True else (if (f_X9_loggedDoor q v x).1 = "java/util/NoSuchElementException" then True else False)) := hok
  refine lv_aload_n hx hb dL_loggedDoor_0 rfl (lv_at hl 2 rfl) ?_
  refine lv_iconst (v := (0 : Int32)) hx hb dL_loggedDoor_1 (by decide) ?_
  refine lv_aload_n hx hb dL_loggedDoor_2 rfl (lv_at hl 0 rfl) ?_
  refine lv_iload_n hx hb dL_loggedDoor_3 rfl (lv_at hl 1 rfl) ?_
  refine xr_V (own := RL) (v := (some (.int ((f_X9_loggedDoor q v x).2)))) (st1 := [.int ((f_X9_loggedDoor q v x).2), .int (0 : Int32), .ref owh]) (As := [.int x]) (rest := [.int (0 : Int32), .ref owh]) (c_X9_loggedDoorS l hlf G qh0 q_snapshot q_history q_program q_notice va q v x) ⟨hx, hb, hml, hown, hts⟩ g_L_126 hdv_X9_loggedDoor hK hST hS hP [0, 1, 2, 3, 4, 5, 6, 7, 8, 9, 10, 11, 12, 13, 14, 15, 16, 17, 18, 19, 20] rfl (k0 := 0) rfl rfl rfl ⟨Nat.le_of_ble_eq_true rfl, Nat.le_of_ble_eq_true rfl⟩ ⟨Nat.le_of_ble_eq_true rfl, Nat.le_of_ble_eq_true rfl⟩ rfl hl.1 rfl (Nat.le_of_ble_eq_true rfl) dL_loggedDoor_4 rfl (fun E ce q9 H hE h1 h2 h3 h4 h5 => ?_) (fun b_1 => ?_)
  · have hF := hF.trans (if_neg (fun e => hE.2 (hE.1.trans e)))
    have hok := Eq.mp (if_neg (fun e => hE.2 (hE.1.trans e))) hok
    have hP := hP.kept (fun k q hk => h2 q.1 ((hP k q hk).lt))
    have hS : va_S A s.heap H _ := ⟨Nat.le_trans hS.1 h1, fun q hq hA => (h2 q (Nat.lt_of_lt_of_le hq hS.1)).trans (hS.2.1 q hq hA), hS.2.2⟩
    by_cases c_2 : (f_X9_loggedDoor q v x).1 = "java/util/NoSuchElementException"
    · have hF := hF.trans (if_pos c_2)
      have hok := Eq.mp (if_pos c_2) hok
      have hEE : E = "java/util/NoSuchElementException" := hE.1.trans c_2
      subst hEE
      refine vx_catch (own := RL) (name := "java/util/NoSuchElementException") hown [] (⟨0, 9, 12, 33⟩ : ExceptionTableEntry) [] (hxt.trans rfl) (fun z hz => nomatch hz) (by decide) (by decide) (hts _ u_689) (va_tabs rfl rfl (hST.2.2.2.2.2.2.2.1 _ cst_NoSuchElementException)) h3 h4 h5 ?_
      refine W.eq (g2 := F0 m 12 ls [.ref q9]) rfl ?_
      refine lv_astore_n (lv' := [(3, .ref q9), (0, .ref qh0), (1, .int x), (2, .ref owh)]) hx hb dL_loggedDoor_12 rfl hl (by decide) rfl (fun ls hl => ?_)
      refine lv_iconst (v := (1 : Int32)) hx hb dL_loggedDoor_13 (by decide) ?_
      exact w_ret (u := ((1 : Int32), ow)) hx hb hr hlk rfl hS rfl hF.symm hP hD (Nat.le_of_ble_eq_true rfl) (Nat.le_of_ble_eq_true rfl) dL_loggedDoor_14
    · have hF := hF.trans (if_neg c_2)
      have hok := Eq.mp (if_neg c_2) hok
      exact hok.elim
  · have hE := b_1.1
    have b_1 := b_1.2
    have hF := hF.trans (if_pos hE)
    have hok := Eq.mp (if_pos hE) hok
    refine lv_i2l hx hb dL_loggedDoor_7 rfl ?_
    refine va_last hx hb hK hP hD hS 21 3 rfl rfl (vp_in_nI (n := 0) (by decide) (by decide)) dL_loggedDoor_8 (fun H locs hP hD hS => ?_)
    have hP : va_P G.1 vwCl (fl [[(qh0, .inr (11, [.ref (va 0), .ref q_snapshot, .int q.1, .ref q_history, .ref q_program, .ref q_notice, .int q.2.1, .int q.2.2]))], wSt G va v, [(owh, .inl (G.2.1 3, 1, .inr (.inl (vp_updL ow (0 : Int32).toNatClampNeg (((f_X9_loggedDoor q v x).2).toInt64)))))]]) H := hP
    have hD : va_D A (fl [[(qh0, .inr (11, [.ref (va 0), .ref q_snapshot, .int q.1, .ref q_history, .ref q_program, .ref q_notice, .int q.2.1, .int q.2.2]))], wSt G va v, [(owh, .inl (G.2.1 3, 1, .inr (.inl (vp_updL ow (0 : Int32).toNatClampNeg (((f_X9_loggedDoor q v x).2).toInt64)))))]]) := hD
    refine lv_goto (tgt := 15) hx hb dL_loggedDoor_9 (by decide) ?_
    refine lv_iconst (v := (0 : Int32)) hx hb dL_loggedDoor_15 (by decide) ?_
    exact w_ret (u := ((0 : Int32), (vp_updL ow (0 : Int32).toNatClampNeg (((f_X9_loggedDoor q v x).2).toInt64)))) hx hb hr hlk rfl hS rfl hF.symm hP hD (Nat.le_of_ble_eq_true rfl) (Nat.le_of_ble_eq_true rfl) dL_loggedDoor_16
theorem dL_loggedResult_0 : decode cL_loggedResult 0 = .ok (.aload_n 2, 1) := by decide +kernel
theorem dL_loggedResult_1 : decode cL_loggedResult 1 = .ok (.iconst 0, 1) := by decide +kernel
theorem dL_loggedResult_2 : decode cL_loggedResult 2 = .ok (.aload_n 0, 1) := by decide +kernel
theorem dL_loggedResult_3 : decode cL_loggedResult 3 = .ok (.iload_n 1, 1) := by decide +kernel
theorem dL_loggedResult_4 : decode cL_loggedResult 4 = .ok (.invokevirtual 129, 3) := by decide +kernel
theorem u_1153 : Cond.methodLink RL 129 yX9_loggedResult ∈ UW := uw 1153 (by decide +kernel) rfl
theorem u_1154 : Cond.instanceMethod yX9_loggedResult ∈ UW := uw 1154 (by decide +kernel) rfl
theorem u_1155 : Cond.selects RX9 yX9_loggedResult yX9_loggedResult ∈ UW := uw 1155 (by decide +kernel) rfl
theorem u_1156 : Cond.code yX9_loggedResult cX9_loggedResult 2 (some .int) ∈ UW := uw 1156 (by decide +kernel) rfl
theorem g_L_129 : GoodIn UW (wsV RL 129 RX9 yX9_loggedResult (wsU yX9_loggedResult cX9_loggedResult 2 (some .int))) := gV u_1153 u_1154 u_1155 u_65 u_1156
theorem hdv_X9_loggedResult : yX9_loggedResult.cls = RX9 ∧ yX9_loggedResult.cls ≠ "java/lang/invoke/MethodHandle" ∧ yX9_loggedResult.cls ≠ "java/lang/invoke/VarHandle" ∧ (parseMethodDescriptor yX9_loggedResult.desc).map (fun d => d.parameters.length) = some 1 := by decide +kernel
theorem dL_loggedResult_12 : decode cL_loggedResult 12 = .ok (.astore_n 3, 1) := by decide +kernel
theorem dL_loggedResult_13 : decode cL_loggedResult 13 = .ok (.iconst 1, 1) := by decide +kernel
theorem dL_loggedResult_14 : decode cL_loggedResult 14 = .ok (.ireturn, 1) := by decide +kernel
theorem dL_loggedResult_7 : decode cL_loggedResult 7 = .ok (.i2l, 1) := by decide +kernel
theorem dL_loggedResult_8 : decode cL_loggedResult 8 = .ok (.lastore, 1) := by decide +kernel
theorem dL_loggedResult_9 : decode cL_loggedResult 9 = .ok (.goto 6, 3) := by decide +kernel
theorem dL_loggedResult_15 : decode cL_loggedResult 15 = .ok (.iconst 0, 1) := by decide +kernel
theorem dL_loggedResult_16 : decode cL_loggedResult 16 = .ok (.ireturn, 1) := by decide +kernel
def f_L_loggedResult (q : McV) (v : StV) (x : Int32) (ow : Nat → Int64) : Int32 × (Nat → Int64) := (if (f_X9_loggedResult q v x).1 = "" then ((0 : Int32), (vp_updL ow (0 : Int32).toNatClampNeg (((f_X9_loggedResult q v x).2).toInt64))) else (if (f_X9_loggedResult q v x).1 = "java/util/NoSuchElementException" then ((1 : Int32), ow) else (0, ow)))
def ok_L_loggedResult (q : McV) (v : StV) (x : Int32) (ow : Nat → Int64) : Prop := (if (f_X9_loggedResult q v x).1 = "" then True else (if (f_X9_loggedResult q v x).1 = "java/util/NoSuchElementException" then True else False))
set_option maxHeartbeats 8000000 in
set_option maxRecDepth 100000 in
set_option linter.constructorNameAsVariable false in
theorem c_L_loggedResult (l : Launch) (hlf : l.stackTraces = false) (G : GG) (qh0 : Nat) (q_snapshot : Nat) (q_history : Nat) (q_program : Nat) (q_notice : Nat) (va : Nat → Nat) (owh : Nat) (sz : Nat) (q : McV) (v : StV) (x : Int32) (ow : Nat → Int64) (hok : ok_L_loggedResult q v x ow) : wMetH l yL_loggedResult cL_loggedResult 4 (some .int) [(0, 9, 12, 33)] 10 1 6 G (fl [[(qh0, .inr (11, [.ref (va 0), .ref q_snapshot, .int q.1, .ref q_history, .ref q_program, .ref q_notice, .int q.2.1, .int q.2.2]))], wSt G va v, [(owh, .inl (G.2.1 3, 1, .inr (.inl ow)))]]) [.ref qh0, .int x, .ref owh] sz (fun u : Int32 × (Nat → Int64) => some (.int u.1)) (fun u : Int32 × (Nat → Int64) => u = f_L_loggedResult q v x ow) (fun u : Int32 × (Nat → Int64) => fl [[(qh0, .inr (11, [.ref (va 0), .ref q_snapshot, .int q.1, .ref q_history, .ref q_program, .ref q_notice, .int q.2.1, .int q.2.2]))], wSt G va v, [(owh, .inl (G.2.1 3, 1, .inr (.inl u.2)))]]) := by
  refine w_startH (by decide +kernel) (Nat.le_of_ble_eq_true rfl) ?_
  intro p e s m below meth c A hx hb hr hml hts hown hlk hin hxt hP hD hA hK hST ls hl
  have hS : va_S A s.heap s.heap [] := va_S.rf
  have hown : s.vm.findClass RL = some m.cls := hown
  have hl : lv_has ls 4 [(0, .ref qh0), (1, .int x), (2, .ref owh)] := hl
  have hF : f_L_loggedResult q v x ow = (if (f_X9_loggedResult q v x).1 = "" then ((0 : Int32), (vp_updL ow (0 : Int32).toNatClampNeg (((f_X9_loggedResult q v x).2).toInt64))) else (if (f_X9_loggedResult q v x).1 = "java/util/NoSuchElementException" then ((1 : Int32), ow) else (0, ow))) := rfl
  have hok : (if (f_X9_loggedResult q v x).1 = "" then True else (if (f_X9_loggedResult q v x).1 = "java/util/NoSuchElementException" then True else False)) := hok
  refine lv_aload_n hx hb dL_loggedResult_0 rfl (lv_at hl 2 rfl) ?_
  refine lv_iconst (v := (0 : Int32)) hx hb dL_loggedResult_1 (by decide) ?_
  refine lv_aload_n hx hb dL_loggedResult_2 rfl (lv_at hl 0 rfl) ?_
  refine lv_iload_n hx hb dL_loggedResult_3 rfl (lv_at hl 1 rfl) ?_
  refine xr_V (own := RL) (v := (some (.int ((f_X9_loggedResult q v x).2)))) (st1 := [.int ((f_X9_loggedResult q v x).2), .int (0 : Int32), .ref owh]) (As := [.int x]) (rest := [.int (0 : Int32), .ref owh]) (c_X9_loggedResultS l hlf G qh0 q_snapshot q_history q_program q_notice va q v x) ⟨hx, hb, hml, hown, hts⟩ g_L_129 hdv_X9_loggedResult hK hST hS hP [0, 1, 2, 3, 4, 5, 6, 7, 8, 9, 10, 11, 12, 13, 14, 15, 16, 17, 18, 19, 20] rfl (k0 := 0) rfl rfl rfl ⟨Nat.le_of_ble_eq_true rfl, Nat.le_of_ble_eq_true rfl⟩ ⟨Nat.le_of_ble_eq_true rfl, Nat.le_of_ble_eq_true rfl⟩ rfl hl.1 rfl (Nat.le_of_ble_eq_true rfl) dL_loggedResult_4 rfl (fun E ce q9 H hE h1 h2 h3 h4 h5 => ?_) (fun b_1 => ?_)
  · have hF := hF.trans (if_neg (fun e => hE.2 (hE.1.trans e)))
    have hok := Eq.mp (if_neg (fun e => hE.2 (hE.1.trans e))) hok
    have hP := hP.kept (fun k q hk => h2 q.1 ((hP k q hk).lt))
    have hS : va_S A s.heap H _ := ⟨Nat.le_trans hS.1 h1, fun q hq hA => (h2 q (Nat.lt_of_lt_of_le hq hS.1)).trans (hS.2.1 q hq hA), hS.2.2⟩
    by_cases c_2 : (f_X9_loggedResult q v x).1 = "java/util/NoSuchElementException"
    · have hF := hF.trans (if_pos c_2)
      have hok := Eq.mp (if_pos c_2) hok
      have hEE : E = "java/util/NoSuchElementException" := hE.1.trans c_2
      subst hEE
      refine vx_catch (own := RL) (name := "java/util/NoSuchElementException") hown [] (⟨0, 9, 12, 33⟩ : ExceptionTableEntry) [] (hxt.trans rfl) (fun z hz => nomatch hz) (by decide) (by decide) (hts _ u_689) (va_tabs rfl rfl (hST.2.2.2.2.2.2.2.1 _ cst_NoSuchElementException)) h3 h4 h5 ?_
      refine W.eq (g2 := F0 m 12 ls [.ref q9]) rfl ?_
      refine lv_astore_n (lv' := [(3, .ref q9), (0, .ref qh0), (1, .int x), (2, .ref owh)]) hx hb dL_loggedResult_12 rfl hl (by decide) rfl (fun ls hl => ?_)
      refine lv_iconst (v := (1 : Int32)) hx hb dL_loggedResult_13 (by decide) ?_
      exact w_ret (u := ((1 : Int32), ow)) hx hb hr hlk rfl hS rfl hF.symm hP hD (Nat.le_of_ble_eq_true rfl) (Nat.le_of_ble_eq_true rfl) dL_loggedResult_14
    · have hF := hF.trans (if_neg c_2)
      have hok := Eq.mp (if_neg c_2) hok
      exact hok.elim
  · have hE := b_1.1
    have b_1 := b_1.2
    have hF := hF.trans (if_pos hE)
    have hok := Eq.mp (if_pos hE) hok
    refine lv_i2l hx hb dL_loggedResult_7 rfl ?_
    refine va_last hx hb hK hP hD hS 21 3 rfl rfl (vp_in_nI (n := 0) (by decide) (by decide)) dL_loggedResult_8 (fun H locs hP hD hS => ?_)
    have hP : va_P G.1 vwCl (fl [[(qh0, .inr (11, [.ref (va 0), .ref q_snapshot, .int q.1, .ref q_history, .ref q_program, .ref q_notice, .int q.2.1, .int q.2.2]))], wSt G va v, [(owh, .inl (G.2.1 3, 1, .inr (.inl (vp_updL ow (0 : Int32).toNatClampNeg (((f_X9_loggedResult q v x).2).toInt64)))))]]) H := hP
    have hD : va_D A (fl [[(qh0, .inr (11, [.ref (va 0), .ref q_snapshot, .int q.1, .ref q_history, .ref q_program, .ref q_notice, .int q.2.1, .int q.2.2]))], wSt G va v, [(owh, .inl (G.2.1 3, 1, .inr (.inl (vp_updL ow (0 : Int32).toNatClampNeg (((f_X9_loggedResult q v x).2).toInt64)))))]]) := hD
    refine lv_goto (tgt := 15) hx hb dL_loggedResult_9 (by decide) ?_
    refine lv_iconst (v := (0 : Int32)) hx hb dL_loggedResult_15 (by decide) ?_
    exact w_ret (u := ((0 : Int32), (vp_updL ow (0 : Int32).toNatClampNeg (((f_X9_loggedResult q v x).2).toInt64)))) hx hb hr hlk rfl hS rfl hF.symm hP hD (Nat.le_of_ble_eq_true rfl) (Nat.le_of_ble_eq_true rfl) dL_loggedResult_16
theorem dL_attemptsWith_0 : decode cL_attemptsWith 0 = .ok (.aload_n 2, 1) := by decide +kernel
theorem dL_attemptsWith_1 : decode cL_attemptsWith 1 = .ok (.iconst 0, 1) := by decide +kernel
theorem dL_attemptsWith_2 : decode cL_attemptsWith 2 = .ok (.aload_n 0, 1) := by decide +kernel
theorem dL_attemptsWith_3 : decode cL_attemptsWith 3 = .ok (.iload_n 1, 1) := by decide +kernel
theorem dL_attemptsWith_4 : decode cL_attemptsWith 4 = .ok (.invokevirtual 132, 3) := by decide +kernel
theorem u_1164 : Cond.methodLink RL 132 yX9_attemptsWith ∈ UW := uw 1164 (by decide +kernel) rfl
theorem u_1165 : Cond.instanceMethod yX9_attemptsWith ∈ UW := uw 1165 (by decide +kernel) rfl
theorem u_1166 : Cond.selects RX9 yX9_attemptsWith yX9_attemptsWith ∈ UW := uw 1166 (by decide +kernel) rfl
theorem u_1167 : Cond.code yX9_attemptsWith cX9_attemptsWith 2 (some .int) ∈ UW := uw 1167 (by decide +kernel) rfl
theorem g_L_132 : GoodIn UW (wsV RL 132 RX9 yX9_attemptsWith (wsU yX9_attemptsWith cX9_attemptsWith 2 (some .int))) := gV u_1164 u_1165 u_1166 u_65 u_1167
theorem hdv_X9_attemptsWith : yX9_attemptsWith.cls = RX9 ∧ yX9_attemptsWith.cls ≠ "java/lang/invoke/MethodHandle" ∧ yX9_attemptsWith.cls ≠ "java/lang/invoke/VarHandle" ∧ (parseMethodDescriptor yX9_attemptsWith.desc).map (fun d => d.parameters.length) = some 1 := by decide +kernel
theorem dL_attemptsWith_12 : decode cL_attemptsWith 12 = .ok (.astore_n 3, 1) := by decide +kernel
theorem dL_attemptsWith_13 : decode cL_attemptsWith 13 = .ok (.iconst 1, 1) := by decide +kernel
theorem dL_attemptsWith_14 : decode cL_attemptsWith 14 = .ok (.ireturn, 1) := by decide +kernel
theorem dL_attemptsWith_7 : decode cL_attemptsWith 7 = .ok (.i2l, 1) := by decide +kernel
theorem dL_attemptsWith_8 : decode cL_attemptsWith 8 = .ok (.lastore, 1) := by decide +kernel
theorem dL_attemptsWith_9 : decode cL_attemptsWith 9 = .ok (.goto 6, 3) := by decide +kernel
theorem dL_attemptsWith_15 : decode cL_attemptsWith 15 = .ok (.iconst 0, 1) := by decide +kernel
theorem dL_attemptsWith_16 : decode cL_attemptsWith 16 = .ok (.ireturn, 1) := by decide +kernel
def f_L_attemptsWith (q : McV) (v : StV) (x : Int32) (ow : Nat → Int64) : Int32 × (Nat → Int64) := (if (f_X9_attemptsWith q v x).1 = "" then ((0 : Int32), (vp_updL ow (0 : Int32).toNatClampNeg (((f_X9_attemptsWith q v x).2).toInt64))) else (if (f_X9_attemptsWith q v x).1 = "java/lang/IllegalArgumentException" then ((1 : Int32), ow) else (0, ow)))
def ok_L_attemptsWith (q : McV) (v : StV) (x : Int32) (ow : Nat → Int64) : Prop := (if (f_X9_attemptsWith q v x).1 = "" then True else (if (f_X9_attemptsWith q v x).1 = "java/lang/IllegalArgumentException" then True else False))
set_option maxHeartbeats 8000000 in
set_option maxRecDepth 100000 in
set_option linter.constructorNameAsVariable false in
theorem c_L_attemptsWith (l : Launch) (hlf : l.stackTraces = false) (G : GG) (qh0 : Nat) (q_snapshot : Nat) (q_history : Nat) (q_program : Nat) (q_notice : Nat) (va : Nat → Nat) (owh : Nat) (sz : Nat) (q : McV) (v : StV) (x : Int32) (ow : Nat → Int64) (hok : ok_L_attemptsWith q v x ow) : wMetH l yL_attemptsWith cL_attemptsWith 4 (some .int) [(0, 9, 12, 13)] 10 1 6 G (fl [[(qh0, .inr (11, [.ref (va 0), .ref q_snapshot, .int q.1, .ref q_history, .ref q_program, .ref q_notice, .int q.2.1, .int q.2.2]))], wSt G va v, [(owh, .inl (G.2.1 3, 1, .inr (.inl ow)))]]) [.ref qh0, .int x, .ref owh] sz (fun u : Int32 × (Nat → Int64) => some (.int u.1)) (fun u : Int32 × (Nat → Int64) => u = f_L_attemptsWith q v x ow) (fun u : Int32 × (Nat → Int64) => fl [[(qh0, .inr (11, [.ref (va 0), .ref q_snapshot, .int q.1, .ref q_history, .ref q_program, .ref q_notice, .int q.2.1, .int q.2.2]))], wSt G va v, [(owh, .inl (G.2.1 3, 1, .inr (.inl u.2)))]]) := by
  refine w_startH (by decide +kernel) (Nat.le_of_ble_eq_true rfl) ?_
  intro p e s m below meth c A hx hb hr hml hts hown hlk hin hxt hP hD hA hK hST ls hl
  have hS : va_S A s.heap s.heap [] := va_S.rf
  have hown : s.vm.findClass RL = some m.cls := hown
  have hl : lv_has ls 4 [(0, .ref qh0), (1, .int x), (2, .ref owh)] := hl
  have hF : f_L_attemptsWith q v x ow = (if (f_X9_attemptsWith q v x).1 = "" then ((0 : Int32), (vp_updL ow (0 : Int32).toNatClampNeg (((f_X9_attemptsWith q v x).2).toInt64))) else (if (f_X9_attemptsWith q v x).1 = "java/lang/IllegalArgumentException" then ((1 : Int32), ow) else (0, ow))) := rfl
  have hok : (if (f_X9_attemptsWith q v x).1 = "" then True else (if (f_X9_attemptsWith q v x).1 = "java/lang/IllegalArgumentException" then True else False)) := hok
  refine lv_aload_n hx hb dL_attemptsWith_0 rfl (lv_at hl 2 rfl) ?_
  refine lv_iconst (v := (0 : Int32)) hx hb dL_attemptsWith_1 (by decide) ?_
  refine lv_aload_n hx hb dL_attemptsWith_2 rfl (lv_at hl 0 rfl) ?_
  refine lv_iload_n hx hb dL_attemptsWith_3 rfl (lv_at hl 1 rfl) ?_
  refine xr_V (own := RL) (v := (some (.int ((f_X9_attemptsWith q v x).2)))) (st1 := [.int ((f_X9_attemptsWith q v x).2), .int (0 : Int32), .ref owh]) (As := [.int x]) (rest := [.int (0 : Int32), .ref owh]) (c_X9_attemptsWithS l hlf G qh0 q_snapshot q_history q_program q_notice va q v x) ⟨hx, hb, hml, hown, hts⟩ g_L_132 hdv_X9_attemptsWith hK hST hS hP [0, 1, 2, 3, 4, 5, 6, 7, 8, 9, 10, 11, 12, 13, 14, 15, 16, 17, 18, 19, 20] rfl (k0 := 0) rfl rfl rfl ⟨Nat.le_of_ble_eq_true rfl, Nat.le_of_ble_eq_true rfl⟩ ⟨Nat.le_of_ble_eq_true rfl, Nat.le_of_ble_eq_true rfl⟩ rfl hl.1 rfl (Nat.le_of_ble_eq_true rfl) dL_attemptsWith_4 rfl (fun E ce q9 H hE h1 h2 h3 h4 h5 => ?_) (fun b_1 => ?_)
  · have hF := hF.trans (if_neg (fun e => hE.2 (hE.1.trans e)))
    have hok := Eq.mp (if_neg (fun e => hE.2 (hE.1.trans e))) hok
    have hP := hP.kept (fun k q hk => h2 q.1 ((hP k q hk).lt))
    have hS : va_S A s.heap H _ := ⟨Nat.le_trans hS.1 h1, fun q hq hA => (h2 q (Nat.lt_of_lt_of_le hq hS.1)).trans (hS.2.1 q hq hA), hS.2.2⟩
    by_cases c_2 : (f_X9_attemptsWith q v x).1 = "java/lang/IllegalArgumentException"
    · have hF := hF.trans (if_pos c_2)
      have hok := Eq.mp (if_pos c_2) hok
      have hEE : E = "java/lang/IllegalArgumentException" := hE.1.trans c_2
      subst hEE
      refine vx_catch (own := RL) (name := "java/lang/IllegalArgumentException") hown [] (⟨0, 9, 12, 13⟩ : ExceptionTableEntry) [] (hxt.trans rfl) (fun z hz => nomatch hz) (by decide) (by decide) (hts _ u_403) (va_tabs rfl rfl (hST.2.2.2.2.2.2.2.1 _ cst_IllegalArgumentException)) h3 h4 h5 ?_
      refine W.eq (g2 := F0 m 12 ls [.ref q9]) rfl ?_
      refine lv_astore_n (lv' := [(3, .ref q9), (0, .ref qh0), (1, .int x), (2, .ref owh)]) hx hb dL_attemptsWith_12 rfl hl (by decide) rfl (fun ls hl => ?_)
      refine lv_iconst (v := (1 : Int32)) hx hb dL_attemptsWith_13 (by decide) ?_
      exact w_ret (u := ((1 : Int32), ow)) hx hb hr hlk rfl hS rfl hF.symm hP hD (Nat.le_of_ble_eq_true rfl) (Nat.le_of_ble_eq_true rfl) dL_attemptsWith_14
    · have hF := hF.trans (if_neg c_2)
      have hok := Eq.mp (if_neg c_2) hok
      exact hok.elim
  · have hE := b_1.1
    have b_1 := b_1.2
    have hF := hF.trans (if_pos hE)
    have hok := Eq.mp (if_pos hE) hok
    refine lv_i2l hx hb dL_attemptsWith_7 rfl ?_
    refine va_last hx hb hK hP hD hS 21 3 rfl rfl (vp_in_nI (n := 0) (by decide) (by decide)) dL_attemptsWith_8 (fun H locs hP hD hS => ?_)
    have hP : va_P G.1 vwCl (fl [[(qh0, .inr (11, [.ref (va 0), .ref q_snapshot, .int q.1, .ref q_history, .ref q_program, .ref q_notice, .int q.2.1, .int q.2.2]))], wSt G va v, [(owh, .inl (G.2.1 3, 1, .inr (.inl (vp_updL ow (0 : Int32).toNatClampNeg (((f_X9_attemptsWith q v x).2).toInt64)))))]]) H := hP
    have hD : va_D A (fl [[(qh0, .inr (11, [.ref (va 0), .ref q_snapshot, .int q.1, .ref q_history, .ref q_program, .ref q_notice, .int q.2.1, .int q.2.2]))], wSt G va v, [(owh, .inl (G.2.1 3, 1, .inr (.inl (vp_updL ow (0 : Int32).toNatClampNeg (((f_X9_attemptsWith q v x).2).toInt64)))))]]) := hD
    refine lv_goto (tgt := 15) hx hb dL_attemptsWith_9 (by decide) ?_
    refine lv_iconst (v := (0 : Int32)) hx hb dL_attemptsWith_15 (by decide) ?_
    exact w_ret (u := ((0 : Int32), (vp_updL ow (0 : Int32).toNatClampNeg (((f_X9_attemptsWith q v x).2).toInt64)))) hx hb hr hlk rfl hS rfl hF.symm hP hD (Nat.le_of_ble_eq_true rfl) (Nat.le_of_ble_eq_true rfl) dL_attemptsWith_16
theorem dL_entryShare_0 : decode cL_entryShare 0 = .ok (.aload_n 1, 1) := by decide +kernel
theorem dL_entryShare_1 : decode cL_entryShare 1 = .ok (.iconst 0, 1) := by decide +kernel
theorem dL_entryShare_2 : decode cL_entryShare 2 = .ok (.aload_n 0, 1) := by decide +kernel
theorem dL_entryShare_3 : decode cL_entryShare 3 = .ok (.invokevirtual 135, 3) := by decide +kernel
theorem u_1189 : Cond.methodLink RL 135 yX9_entryShare ∈ UW := uw 1189 (by decide +kernel) rfl
theorem u_1190 : Cond.instanceMethod yX9_entryShare ∈ UW := uw 1190 (by decide +kernel) rfl
theorem u_1191 : Cond.selects RX9 yX9_entryShare yX9_entryShare ∈ UW := uw 1191 (by decide +kernel) rfl
theorem u_1192 : Cond.code yX9_entryShare cX9_entryShare 2 (some .double) ∈ UW := uw 1192 (by decide +kernel) rfl
theorem g_L_135 : GoodIn UW (wsV RL 135 RX9 yX9_entryShare (wsU yX9_entryShare cX9_entryShare 2 (some .double))) := gV u_1189 u_1190 u_1191 u_65 u_1192
theorem hdv_X9_entryShare : yX9_entryShare.cls = RX9 ∧ yX9_entryShare.cls ≠ "java/lang/invoke/MethodHandle" ∧ yX9_entryShare.cls ≠ "java/lang/invoke/VarHandle" ∧ (parseMethodDescriptor yX9_entryShare.desc).map (fun d => d.parameters.length) = some 0 := by decide +kernel
theorem u_1175 : Cond.classLink RL 139 "java/lang/ArithmeticException" ∈ UW := uw 1175 (by decide +kernel) rfl
theorem cst_ArithmeticException : Cond.castable "java/lang/ArithmeticException" "java/lang/ArithmeticException" ∈ CW := cwm 1187 (by decide +kernel) rfl
theorem dL_entryShare_10 : decode cL_entryShare 10 = .ok (.astore_n 2, 1) := by decide +kernel
theorem dL_entryShare_11 : decode cL_entryShare 11 = .ok (.iconst 1, 1) := by decide +kernel
theorem dL_entryShare_12 : decode cL_entryShare 12 = .ok (.ireturn, 1) := by decide +kernel
theorem dL_entryShare_6 : decode cL_entryShare 6 = .ok (.dastore, 1) := by decide +kernel
theorem dL_entryShare_7 : decode cL_entryShare 7 = .ok (.goto 6, 3) := by decide +kernel
theorem dL_entryShare_13 : decode cL_entryShare 13 = .ok (.iconst 0, 1) := by decide +kernel
theorem dL_entryShare_14 : decode cL_entryShare 14 = .ok (.ireturn, 1) := by decide +kernel
def f_L_entryShare (q : McV) (v : StV) (ow : Nat → UInt64) : Int32 × (Nat → UInt64) := (if (f_X9_entryShare q v).1 = "" then ((0 : Int32), (vf_upd ow (0 : Int32).toNatClampNeg ((f_X9_entryShare q v).2))) else (if (f_X9_entryShare q v).1 = "java/lang/ArithmeticException" then ((1 : Int32), ow) else (0, ow)))
def ok_L_entryShare (q : McV) (v : StV) (ow : Nat → UInt64) : Prop := (ok_X9_entryShare q v ∧ (if (f_X9_entryShare q v).1 = "" then True else (if (f_X9_entryShare q v).1 = "java/lang/ArithmeticException" then True else False)))
set_option maxHeartbeats 8000000 in
set_option maxRecDepth 100000 in
set_option linter.constructorNameAsVariable false in
theorem c_L_entryShare (l : Launch) (hlf : l.stackTraces = false) (G : GG) (qh0 : Nat) (q_snapshot : Nat) (q_history : Nat) (q_program : Nat) (q_notice : Nat) (va : Nat → Nat) (owh : Nat) (sz : Nat) (q : McV) (v : StV) (ow : Nat → UInt64) (hok : ok_L_entryShare q v ow) : wMetH l yL_entryShare cL_entryShare 3 (some .int) [(0, 7, 10, 139)] 9 1 6 G (fl [[(qh0, .inr (11, [.ref (va 0), .ref q_snapshot, .int q.1, .ref q_history, .ref q_program, .ref q_notice, .int q.2.1, .int q.2.2]))], wSt G va v, [(owh, .inl (G.2.1 4, 1, .inr (.inr (.inr (.inl ow)))))]]) [.ref qh0, .ref owh] sz (fun u : Int32 × (Nat → UInt64) => some (.int u.1)) (fun u : Int32 × (Nat → UInt64) => u = f_L_entryShare q v ow) (fun u : Int32 × (Nat → UInt64) => fl [[(qh0, .inr (11, [.ref (va 0), .ref q_snapshot, .int q.1, .ref q_history, .ref q_program, .ref q_notice, .int q.2.1, .int q.2.2]))], wSt G va v, [(owh, .inl (G.2.1 4, 1, .inr (.inr (.inr (.inl u.2)))))]]) := by
  refine w_startH (by decide +kernel) (Nat.le_of_ble_eq_true rfl) ?_
  intro p e s m below meth c A hx hb hr hml hts hown hlk hin hxt hP hD hA hK hST ls hl
  have hS : va_S A s.heap s.heap [] := va_S.rf
  have hown : s.vm.findClass RL = some m.cls := hown
  have hl : lv_has ls 3 [(0, .ref qh0), (1, .ref owh)] := hl
  have hF : f_L_entryShare q v ow = (if (f_X9_entryShare q v).1 = "" then ((0 : Int32), (vf_upd ow (0 : Int32).toNatClampNeg ((f_X9_entryShare q v).2))) else (if (f_X9_entryShare q v).1 = "java/lang/ArithmeticException" then ((1 : Int32), ow) else (0, ow))) := rfl
  have hok : (ok_X9_entryShare q v ∧ (if (f_X9_entryShare q v).1 = "" then True else (if (f_X9_entryShare q v).1 = "java/lang/ArithmeticException" then True else False))) := hok
  refine lv_aload_n hx hb dL_entryShare_0 rfl (lv_at hl 1 rfl) ?_
  refine lv_iconst (v := (0 : Int32)) hx hb dL_entryShare_1 (by decide) ?_
  refine lv_aload_n hx hb dL_entryShare_2 rfl (lv_at hl 0 rfl) ?_
  have k_1 := hok.1
  have hok := hok.2
  refine xr_V (own := RL) (v := (some (.double ((f_X9_entryShare q v).2)))) (st1 := [.double ((f_X9_entryShare q v).2), .int (0 : Int32), .ref owh]) (As := []) (rest := [.int (0 : Int32), .ref owh]) (c_X9_entryShareS l hlf G qh0 q_snapshot q_history q_program q_notice va q v k_1) ⟨hx, hb, hml, hown, hts⟩ g_L_135 hdv_X9_entryShare hK hST hS hP [0, 1, 2, 3, 4, 5, 6, 7, 8, 9, 10, 11, 12, 13, 14, 15, 16, 17, 18, 19, 20] rfl (k0 := 0) rfl rfl rfl ⟨Nat.le_of_ble_eq_true rfl, Nat.le_of_ble_eq_true rfl⟩ ⟨Nat.le_of_ble_eq_true rfl, Nat.le_of_ble_eq_true rfl⟩ rfl hl.1 rfl (Nat.le_of_ble_eq_true rfl) dL_entryShare_3 rfl (fun E ce q9 H hE h1 h2 h3 h4 h5 => ?_) (fun b_2 => ?_)
  · have hF := hF.trans (if_neg (fun e => hE.2 (hE.1.trans e)))
    have hok := Eq.mp (if_neg (fun e => hE.2 (hE.1.trans e))) hok
    have hP := hP.kept (fun k q hk => h2 q.1 ((hP k q hk).lt))
    have hS : va_S A s.heap H _ := ⟨Nat.le_trans hS.1 h1, fun q hq hA => (h2 q (Nat.lt_of_lt_of_le hq hS.1)).trans (hS.2.1 q hq hA), hS.2.2⟩
    by_cases c_3 : (f_X9_entryShare q v).1 = "java/lang/ArithmeticException"
    · have hF := hF.trans (if_pos c_3)
      have hok := Eq.mp (if_pos c_3) hok
      have hEE : E = "java/lang/ArithmeticException" := hE.1.trans c_3
      subst hEE
      refine vx_catch (own := RL) (name := "java/lang/ArithmeticException") hown [] (⟨0, 7, 10, 139⟩ : ExceptionTableEntry) [] (hxt.trans rfl) (fun z hz => nomatch hz) (by decide) (by decide) (hts _ u_1175) (va_tabs rfl rfl (hST.2.2.2.2.2.2.2.1 _ cst_ArithmeticException)) h3 h4 h5 ?_
      refine W.eq (g2 := F0 m 10 ls [.ref q9]) rfl ?_
      refine lv_astore_n (lv' := [(2, .ref q9), (0, .ref qh0), (1, .ref owh)]) hx hb dL_entryShare_10 rfl hl (by decide) rfl (fun ls hl => ?_)
      refine lv_iconst (v := (1 : Int32)) hx hb dL_entryShare_11 (by decide) ?_
      exact w_ret (u := ((1 : Int32), ow)) hx hb hr hlk rfl hS rfl hF.symm hP hD (Nat.le_of_ble_eq_true rfl) (Nat.le_of_ble_eq_true rfl) dL_entryShare_12
    · have hF := hF.trans (if_neg c_3)
      have hok := Eq.mp (if_neg c_3) hok
      exact hok.elim
  · have hE := b_2.1
    have b_2 := b_2.2
    have hF := hF.trans (if_pos hE)
    have hok := Eq.mp (if_pos hE) hok
    refine va_dast hx hb hK hP hD hS 21 4 rfl rfl (vp_in_nI (n := 0) (by decide) (by decide)) dL_entryShare_6 (fun H locs hP hD hS => ?_)
    have hP : va_P G.1 vwCl (fl [[(qh0, .inr (11, [.ref (va 0), .ref q_snapshot, .int q.1, .ref q_history, .ref q_program, .ref q_notice, .int q.2.1, .int q.2.2]))], wSt G va v, [(owh, .inl (G.2.1 4, 1, .inr (.inr (.inr (.inl (vf_upd ow (0 : Int32).toNatClampNeg ((f_X9_entryShare q v).2)))))))]]) H := hP
    have hD : va_D A (fl [[(qh0, .inr (11, [.ref (va 0), .ref q_snapshot, .int q.1, .ref q_history, .ref q_program, .ref q_notice, .int q.2.1, .int q.2.2]))], wSt G va v, [(owh, .inl (G.2.1 4, 1, .inr (.inr (.inr (.inl (vf_upd ow (0 : Int32).toNatClampNeg ((f_X9_entryShare q v).2)))))))]]) := hD
    refine lv_goto (tgt := 13) hx hb dL_entryShare_7 (by decide) ?_
    refine lv_iconst (v := (0 : Int32)) hx hb dL_entryShare_13 (by decide) ?_
    exact w_ret (u := ((0 : Int32), (vf_upd ow (0 : Int32).toNatClampNeg ((f_X9_entryShare q v).2)))) hx hb hr hlk rfl hS rfl hF.symm hP hD (Nat.le_of_ble_eq_true rfl) (Nat.le_of_ble_eq_true rfl) dL_entryShare_14
theorem dL_writeNotice_0 : decode cL_writeNotice 0 = .ok (.aload_n 2, 1) := by decide +kernel
theorem dL_writeNotice_1 : decode cL_writeNotice 1 = .ok (.iconst 0, 1) := by decide +kernel
theorem dL_writeNotice_2 : decode cL_writeNotice 2 = .ok (.aload_n 0, 1) := by decide +kernel
theorem dL_writeNotice_3 : decode cL_writeNotice 3 = .ok (.iload_n 1, 1) := by decide +kernel
theorem dL_writeNotice_4 : decode cL_writeNotice 4 = .ok (.invokevirtual 141, 3) := by decide +kernel
theorem u_1199 : Cond.methodLink RL 141 yX9_writeNotice ∈ UW := uw 1199 (by decide +kernel) rfl
theorem u_1200 : Cond.instanceMethod yX9_writeNotice ∈ UW := uw 1200 (by decide +kernel) rfl
theorem u_1201 : Cond.selects RX9 yX9_writeNotice yX9_writeNotice ∈ UW := uw 1201 (by decide +kernel) rfl
theorem u_1202 : Cond.code yX9_writeNotice cX9_writeNotice 2 (some .int) ∈ UW := uw 1202 (by decide +kernel) rfl
theorem g_L_141 : GoodIn UW (wsV RL 141 RX9 yX9_writeNotice (wsU yX9_writeNotice cX9_writeNotice 2 (some .int))) := gV u_1199 u_1200 u_1201 u_65 u_1202
theorem hdv_X9_writeNotice : yX9_writeNotice.cls = RX9 ∧ yX9_writeNotice.cls ≠ "java/lang/invoke/MethodHandle" ∧ yX9_writeNotice.cls ≠ "java/lang/invoke/VarHandle" ∧ (parseMethodDescriptor yX9_writeNotice.desc).map (fun d => d.parameters.length) = some 1 := by decide +kernel
theorem dL_writeNotice_7 : decode cL_writeNotice 7 = .ok (.i2l, 1) := by decide +kernel
theorem dL_writeNotice_8 : decode cL_writeNotice 8 = .ok (.lastore, 1) := by decide +kernel
theorem dL_writeNotice_9 : decode cL_writeNotice 9 = .ok (.goto 6, 3) := by decide +kernel
theorem dL_writeNotice_15 : decode cL_writeNotice 15 = .ok (.iconst 0, 1) := by decide +kernel
theorem dL_writeNotice_16 : decode cL_writeNotice 16 = .ok (.ireturn, 1) := by decide +kernel
theorem dL_writeNotice_12 : decode cL_writeNotice 12 = .ok (.astore_n 3, 1) := by decide +kernel
theorem dL_writeNotice_13 : decode cL_writeNotice 13 = .ok (.iconst 1, 1) := by decide +kernel
theorem dL_writeNotice_14 : decode cL_writeNotice 14 = .ok (.ireturn, 1) := by decide +kernel
def f_L_writeNotice (q : McV) (v : StV) (nb : SbV) (dr : Int32) (ow : Nat → Int64) : Int32 × SbV × (Nat → Int64) := (let u_3 : String × Int32 × SbV := (f_X9_writeNotice q v nb dr); (if u_3.1 = "" then ((0 : Int32), u_3.2.2, (vp_updL ow (0 : Int32).toNatClampNeg u_3.2.1.toInt64)) else (if (f_X9_writeNotice q v nb dr).1 = "java/lang/IndexOutOfBoundsException" then ((1 : Int32), nb, ow) else (0, nb, ow))))
def ok_L_writeNotice (q : McV) (v : StV) (nb : SbV) (dr : Int32) (ow : Nat → Int64) : Prop := (ok_X9_writeNotice q v nb dr ∧ (let u_3 : String × Int32 × SbV := (f_X9_writeNotice q v nb dr); (if u_3.1 = "" then True else (if (f_X9_writeNotice q v nb dr).1 = "java/lang/IndexOutOfBoundsException" then True else False))))
set_option maxHeartbeats 8000000 in
set_option maxRecDepth 100000 in
set_option linter.constructorNameAsVariable false in
theorem c_L_writeNotice (l : Launch) (hlf : l.stackTraces = false) (G : GG) (qh0 : Nat) (q_snapshot : Nat) (q_history : Nat) (q_program : Nat) (va : Nat → Nat) (nbh0 : Nat) (nbh1 : Nat) (owh : Nat) (sz : Nat) (q : McV) (v : StV) (nb : SbV) (dr : Int32) (ow : Nat → Int64) (hok : ok_L_writeNotice q v nb dr ow) : wMetH l yL_writeNotice cL_writeNotice 4 (some .int) [(0, 9, 12, 21)] 10 22 4206 G (fl [[(qh0, .inr (11, [.ref (va 0), .ref q_snapshot, .int q.1, .ref q_history, .ref q_program, .ref nbh0, .int q.2.1, .int q.2.2]))], wSt G va v, [(nbh0, .inr (1, [.ref nbh1, .int (0 : Int32), .int nb.2.2.1, .int nb.2.2.2]))], [(nbh1, .inl (G.2.1 2, nb.1, .inl nb.2.1))], [(owh, .inl (G.2.1 3, 1, .inr (.inl ow)))]]) [.ref qh0, .int dr, .ref owh] sz (fun u : Nat × Int32 × SbV × (Nat → Int64) => some (.int u.2.1)) (fun u : Nat × Int32 × SbV × (Nat → Int64) => u.2 = f_L_writeNotice q v nb dr ow) (fun u : Nat × Int32 × SbV × (Nat → Int64) => fl [[(qh0, .inr (11, [.ref (va 0), .ref q_snapshot, .int q.1, .ref q_history, .ref q_program, .ref nbh0, .int q.2.1, .int q.2.2]))], wSt G va v, [(nbh0, .inr (1, [.ref u.1, .int (0 : Int32), .int u.2.2.1.2.2.1, .int u.2.2.1.2.2.2]))], [(u.1, .inl (G.2.1 2, u.2.2.1.1, .inl u.2.2.1.2.1))], [(owh, .inl (G.2.1 3, 1, .inr (.inl u.2.2.2)))]]) := by
  refine w_startH (by decide +kernel) (Nat.le_of_ble_eq_true rfl) ?_
  intro p e s m below meth c A hx hb hr hml hts hown hlk hin hxt hP hD hA hK hST ls hl
  have hS : va_S A s.heap s.heap [] := va_S.rf
  have hown : s.vm.findClass RL = some m.cls := hown
  have hl : lv_has ls 4 [(0, .ref qh0), (1, .int dr), (2, .ref owh)] := hl
  have hF : f_L_writeNotice q v nb dr ow = (let u_3 : String × Int32 × SbV := (f_X9_writeNotice q v nb dr); (if u_3.1 = "" then ((0 : Int32), u_3.2.2, (vp_updL ow (0 : Int32).toNatClampNeg u_3.2.1.toInt64)) else (if (f_X9_writeNotice q v nb dr).1 = "java/lang/IndexOutOfBoundsException" then ((1 : Int32), nb, ow) else (0, nb, ow)))) := rfl
  have hok : (ok_X9_writeNotice q v nb dr ∧ (let u_3 : String × Int32 × SbV := (f_X9_writeNotice q v nb dr); (if u_3.1 = "" then True else (if (f_X9_writeNotice q v nb dr).1 = "java/lang/IndexOutOfBoundsException" then True else False)))) := hok
  refine lv_aload_n hx hb dL_writeNotice_0 rfl (lv_at hl 2 rfl) ?_
  refine lv_iconst (v := (0 : Int32)) hx hb dL_writeNotice_1 (by decide) ?_
  refine lv_aload_n hx hb dL_writeNotice_2 rfl (lv_at hl 0 rfl) ?_
  refine lv_iload_n hx hb dL_writeNotice_3 rfl (lv_at hl 1 rfl) ?_
  have k_1 := hok.1
  have hok := hok.2
  refine xw_V (own := RL) (cs := [[(qh0, .inr (11, [.ref (va 0), .ref q_snapshot, .int q.1, .ref q_history, .ref q_program, .ref nbh0, .int q.2.1, .int q.2.2]))], wSt G va v, [(nbh0, .inr (1, [.ref nbh1, .int (0 : Int32), .int nb.2.2.1, .int nb.2.2.2]))], [(nbh1, .inl (G.2.1 2, nb.1, .inl nb.2.1))]]) (rs := [[(owh, .inl (G.2.1 3, 1, .inr (.inl ow)))]]) (As := [.int dr]) (rest := [.int (0 : Int32), .ref owh]) (c_X9_writeNoticeS l hlf G qh0 q_snapshot q_history q_program va nbh0 nbh1 s.heap.size q v nb dr k_1) ⟨hx, hb, hml, hown, hts⟩ g_L_141 hdv_X9_writeNotice hK hST hS hP hD hA [0, 1, 2, 3] [4] rfl rfl rfl (k0 := 0) rfl rfl rfl ⟨Nat.le_of_ble_eq_true rfl, Nat.le_of_ble_eq_true rfl⟩ ⟨Nat.le_of_ble_eq_true rfl, Nat.le_of_ble_eq_true rfl⟩ rfl hl.1 rfl (Nat.le_of_ble_eq_true rfl) dL_writeNotice_4 (fun E ce q9 H locs hE hP hS h3 h4 h5 => ?_) (fun u_3 H locs huu hP hD hS => ?_)
  rotate_left
  obtain ⟨qu_3, u_3⟩ := u_3
  obtain ⟨huu, b_2⟩ := huu
  have huu : u_3 = (f_X9_writeNotice q v nb dr) := huu
  rw [← huu] at b_2
  have eu_3 : u_3 = (f_X9_writeNotice q v nb dr) := huu
  have hP : va_P G.1 vwCl (fl [[(qh0, .inr (11, [.ref (va 0), .ref q_snapshot, .int q.1, .ref q_history, .ref q_program, .ref nbh0, .int q.2.1, .int q.2.2]))], wSt G va v, [(nbh0, .inr (1, [.ref qu_3, .int (0 : Int32), .int u_3.2.2.2.2.1, .int u_3.2.2.2.2.2]))], [(qu_3, .inl (G.2.1 2, u_3.2.2.1, .inl u_3.2.2.2.1))], [(owh, .inl (G.2.1 3, 1, .inr (.inl ow)))]]) H := hP
  have hD : va_D A (fl [[(qh0, .inr (11, [.ref (va 0), .ref q_snapshot, .int q.1, .ref q_history, .ref q_program, .ref nbh0, .int q.2.1, .int q.2.2]))], wSt G va v, [(nbh0, .inr (1, [.ref qu_3, .int (0 : Int32), .int u_3.2.2.2.2.1, .int u_3.2.2.2.2.2]))], [(qu_3, .inl (G.2.1 2, u_3.2.2.1, .inl u_3.2.2.2.1))], [(owh, .inl (G.2.1 3, 1, .inr (.inl ow)))]]) := hD
  refine W.eq (g2 := F0 m 7 ls [.int u_3.2.1, .int (0 : Int32), .ref owh]) rfl ?_
  have hE := b_2.1
  have hF : f_L_writeNotice q v nb dr ow = (if u_3.1 = "" then ((0 : Int32), u_3.2.2, (vp_updL ow (0 : Int32).toNatClampNeg u_3.2.1.toInt64)) else (if (f_X9_writeNotice q v nb dr).1 = "java/lang/IndexOutOfBoundsException" then ((1 : Int32), nb, ow) else (0, nb, ow))) := by subst eu_3; exact hF
  have hF := hF.trans (if_pos hE)
  have hok : (if u_3.1 = "" then True else (if (f_X9_writeNotice q v nb dr).1 = "java/lang/IndexOutOfBoundsException" then True else False)) := by subst eu_3; exact hok
  have hok := Eq.mp (if_pos hE) hok
  refine lv_i2l hx hb dL_writeNotice_7 rfl ?_
  refine va_last hx hb hK hP hD hS 23 3 rfl rfl (vp_in_nI (n := 0) (by decide) (by decide)) dL_writeNotice_8 (fun H locs hP hD hS => ?_)
  have hP : va_P G.1 vwCl (fl [[(qh0, .inr (11, [.ref (va 0), .ref q_snapshot, .int q.1, .ref q_history, .ref q_program, .ref nbh0, .int q.2.1, .int q.2.2]))], wSt G va v, [(nbh0, .inr (1, [.ref qu_3, .int (0 : Int32), .int u_3.2.2.2.2.1, .int u_3.2.2.2.2.2]))], [(qu_3, .inl (G.2.1 2, u_3.2.2.1, .inl u_3.2.2.2.1))], [(owh, .inl (G.2.1 3, 1, .inr (.inl (vp_updL ow (0 : Int32).toNatClampNeg u_3.2.1.toInt64))))]]) H := hP
  have hD : va_D A (fl [[(qh0, .inr (11, [.ref (va 0), .ref q_snapshot, .int q.1, .ref q_history, .ref q_program, .ref nbh0, .int q.2.1, .int q.2.2]))], wSt G va v, [(nbh0, .inr (1, [.ref qu_3, .int (0 : Int32), .int u_3.2.2.2.2.1, .int u_3.2.2.2.2.2]))], [(qu_3, .inl (G.2.1 2, u_3.2.2.1, .inl u_3.2.2.2.1))], [(owh, .inl (G.2.1 3, 1, .inr (.inl (vp_updL ow (0 : Int32).toNatClampNeg u_3.2.1.toInt64))))]]) := hD
  refine lv_goto (tgt := 15) hx hb dL_writeNotice_9 (by decide) ?_
  refine lv_iconst (v := (0 : Int32)) hx hb dL_writeNotice_15 (by decide) ?_
  exact w_ret (u := (qu_3, ((0 : Int32), u_3.2.2, (vp_updL ow (0 : Int32).toNatClampNeg u_3.2.1.toInt64)))) hx hb hr hlk rfl hS rfl hF.symm hP hD (Nat.le_of_ble_eq_true rfl) (Nat.le_of_ble_eq_true rfl) dL_writeNotice_16
  have hF := hF.trans (if_neg (fun e => hE.2 (hE.1.trans e)))
  have hok := Eq.mp (if_neg (fun e => hE.2 (hE.1.trans e))) hok
  by_cases c_4 : (f_X9_writeNotice q v nb dr).1 = "java/lang/IndexOutOfBoundsException"
  · have hF := hF.trans (if_pos c_4)
    have hok := Eq.mp (if_pos c_4) hok
    have hEE : E = "java/lang/IndexOutOfBoundsException" := hE.1.trans c_4
    subst hEE
    refine vx_catch (own := RL) (name := "java/lang/IndexOutOfBoundsException") hown [] (⟨0, 9, 12, 21⟩ : ExceptionTableEntry) [] (hxt.trans rfl) (fun z hz => nomatch hz) (by decide) (by decide) (hts _ u_608) (va_tabs rfl rfl (hST.2.2.2.2.2.2.2.1 _ cst_IndexOutOfBoundsException)) h3 h4 h5 ?_
    refine W.eq (g2 := F0 m 12 ls [.ref q9]) rfl ?_
    refine lv_astore_n (lv' := [(3, .ref q9), (0, .ref qh0), (1, .int dr), (2, .ref owh)]) hx hb dL_writeNotice_12 rfl hl (by decide) rfl (fun ls hl => ?_)
    refine lv_iconst (v := (1 : Int32)) hx hb dL_writeNotice_13 (by decide) ?_
    exact w_ret (u := (nbh1, ((1 : Int32), nb, ow))) hx hb hr hlk rfl hS rfl hF.symm hP hD (Nat.le_of_ble_eq_true rfl) (Nat.le_of_ble_eq_true rfl) dL_writeNotice_14
  · have hF := hF.trans (if_neg c_4)
    have hok := Eq.mp (if_neg c_4) hok
    exact hok.elim
theorem dL_noticeAt_0 : decode cL_noticeAt 0 = .ok (.aload_n 2, 1) := by decide +kernel
theorem dL_noticeAt_1 : decode cL_noticeAt 1 = .ok (.iconst 0, 1) := by decide +kernel
theorem dL_noticeAt_2 : decode cL_noticeAt 2 = .ok (.aload_n 0, 1) := by decide +kernel
theorem dL_noticeAt_3 : decode cL_noticeAt 3 = .ok (.iload_n 1, 1) := by decide +kernel
theorem dL_noticeAt_4 : decode cL_noticeAt 4 = .ok (.invokevirtual 144, 3) := by decide +kernel
theorem u_1498 : Cond.methodLink RL 144 yX9_noticeAt ∈ UW := uw 1498 (by decide +kernel) rfl
theorem u_1499 : Cond.instanceMethod yX9_noticeAt ∈ UW := uw 1499 (by decide +kernel) rfl
theorem u_1500 : Cond.selects RX9 yX9_noticeAt yX9_noticeAt ∈ UW := uw 1500 (by decide +kernel) rfl
theorem u_1501 : Cond.code yX9_noticeAt cX9_noticeAt 2 (some .char) ∈ UW := uw 1501 (by decide +kernel) rfl
theorem g_L_144 : GoodIn UW (wsV RL 144 RX9 yX9_noticeAt (wsU yX9_noticeAt cX9_noticeAt 2 (some .char))) := gV u_1498 u_1499 u_1500 u_65 u_1501
theorem hdv_X9_noticeAt : yX9_noticeAt.cls = RX9 ∧ yX9_noticeAt.cls ≠ "java/lang/invoke/MethodHandle" ∧ yX9_noticeAt.cls ≠ "java/lang/invoke/VarHandle" ∧ (parseMethodDescriptor yX9_noticeAt.desc).map (fun d => d.parameters.length) = some 1 := by decide +kernel
theorem dL_noticeAt_12 : decode cL_noticeAt 12 = .ok (.astore_n 3, 1) := by decide +kernel
theorem dL_noticeAt_13 : decode cL_noticeAt 13 = .ok (.iconst 1, 1) := by decide +kernel
theorem dL_noticeAt_14 : decode cL_noticeAt 14 = .ok (.ireturn, 1) := by decide +kernel
theorem dL_noticeAt_7 : decode cL_noticeAt 7 = .ok (.i2l, 1) := by decide +kernel
theorem dL_noticeAt_8 : decode cL_noticeAt 8 = .ok (.lastore, 1) := by decide +kernel
theorem dL_noticeAt_9 : decode cL_noticeAt 9 = .ok (.goto 6, 3) := by decide +kernel
theorem dL_noticeAt_15 : decode cL_noticeAt 15 = .ok (.iconst 0, 1) := by decide +kernel
theorem dL_noticeAt_16 : decode cL_noticeAt 16 = .ok (.ireturn, 1) := by decide +kernel
def f_L_noticeAt (q : McV) (nb : SbV) (x : Int32) (ow : Nat → Int64) : Int32 × (Nat → Int64) := (if (f_X9_noticeAt q nb x).1 = "" then ((0 : Int32), (vp_updL ow (0 : Int32).toNatClampNeg (((f_X9_noticeAt q nb x).2).toInt64))) else (if (f_X9_noticeAt q nb x).1 = "java/lang/IndexOutOfBoundsException" then ((1 : Int32), ow) else (0, ow)))
def ok_L_noticeAt (q : McV) (nb : SbV) (x : Int32) (ow : Nat → Int64) : Prop := (ok_X9_noticeAt q nb x ∧ (if (f_X9_noticeAt q nb x).1 = "" then True else (if (f_X9_noticeAt q nb x).1 = "java/lang/IndexOutOfBoundsException" then True else False)))
set_option maxHeartbeats 8000000 in
set_option maxRecDepth 100000 in
set_option linter.constructorNameAsVariable false in
theorem c_L_noticeAt (l : Launch) (hlf : l.stackTraces = false) (G : GG) (qh0 : Nat) (q_state : Nat) (q_snapshot : Nat) (q_history : Nat) (q_program : Nat) (nbh0 : Nat) (nbh1 : Nat) (owh : Nat) (sz : Nat) (q : McV) (nb : SbV) (x : Int32) (ow : Nat → Int64) (hok : ok_L_noticeAt q nb x ow) : wMetH l yL_noticeAt cL_noticeAt 4 (some .int) [(0, 9, 12, 21)] 9 1 6 G (fl [[(qh0, .inr (11, [.ref q_state, .ref q_snapshot, .int q.1, .ref q_history, .ref q_program, .ref nbh0, .int q.2.1, .int q.2.2]))], [(nbh0, .inr (1, [.ref nbh1, .int (0 : Int32), .int nb.2.2.1, .int nb.2.2.2]))], [(nbh1, .inl (G.2.1 2, nb.1, .inl nb.2.1))], [(owh, .inl (G.2.1 3, 1, .inr (.inl ow)))]]) [.ref qh0, .int x, .ref owh] sz (fun u : Int32 × (Nat → Int64) => some (.int u.1)) (fun u : Int32 × (Nat → Int64) => u = f_L_noticeAt q nb x ow) (fun u : Int32 × (Nat → Int64) => fl [[(qh0, .inr (11, [.ref q_state, .ref q_snapshot, .int q.1, .ref q_history, .ref q_program, .ref nbh0, .int q.2.1, .int q.2.2]))], [(nbh0, .inr (1, [.ref nbh1, .int (0 : Int32), .int nb.2.2.1, .int nb.2.2.2]))], [(nbh1, .inl (G.2.1 2, nb.1, .inl nb.2.1))], [(owh, .inl (G.2.1 3, 1, .inr (.inl u.2)))]]) := by
  refine w_startH (by decide +kernel) (Nat.le_of_ble_eq_true rfl) ?_
  intro p e s m below meth c A hx hb hr hml hts hown hlk hin hxt hP hD hA hK hST ls hl
  have hS : va_S A s.heap s.heap [] := va_S.rf
  have hown : s.vm.findClass RL = some m.cls := hown
  have hl : lv_has ls 4 [(0, .ref qh0), (1, .int x), (2, .ref owh)] := hl
  have hF : f_L_noticeAt q nb x ow = (if (f_X9_noticeAt q nb x).1 = "" then ((0 : Int32), (vp_updL ow (0 : Int32).toNatClampNeg (((f_X9_noticeAt q nb x).2).toInt64))) else (if (f_X9_noticeAt q nb x).1 = "java/lang/IndexOutOfBoundsException" then ((1 : Int32), ow) else (0, ow))) := rfl
  have hok : (ok_X9_noticeAt q nb x ∧ (if (f_X9_noticeAt q nb x).1 = "" then True else (if (f_X9_noticeAt q nb x).1 = "java/lang/IndexOutOfBoundsException" then True else False))) := hok
  refine lv_aload_n hx hb dL_noticeAt_0 rfl (lv_at hl 2 rfl) ?_
  refine lv_iconst (v := (0 : Int32)) hx hb dL_noticeAt_1 (by decide) ?_
  refine lv_aload_n hx hb dL_noticeAt_2 rfl (lv_at hl 0 rfl) ?_
  refine lv_iload_n hx hb dL_noticeAt_3 rfl (lv_at hl 1 rfl) ?_
  have k_1 := hok.1
  have hok := hok.2
  refine xr_V (own := RL) (v := (some (.int ((f_X9_noticeAt q nb x).2)))) (st1 := [.int ((f_X9_noticeAt q nb x).2), .int (0 : Int32), .ref owh]) (As := [.int x]) (rest := [.int (0 : Int32), .ref owh]) (c_X9_noticeAt l hlf G qh0 q_state q_snapshot q_history q_program nbh0 nbh1 q nb x k_1) ⟨hx, hb, hml, hown, hts⟩ g_L_144 hdv_X9_noticeAt hK hST hS hP [0, 1, 2] rfl (k0 := 0) rfl rfl rfl ⟨Nat.le_of_ble_eq_true rfl, Nat.le_of_ble_eq_true rfl⟩ ⟨Nat.le_of_ble_eq_true rfl, Nat.le_of_ble_eq_true rfl⟩ rfl hl.1 rfl (Nat.le_of_ble_eq_true rfl) dL_noticeAt_4 rfl (fun E ce q9 H hE h1 h2 h3 h4 h5 => ?_) (fun b_2 => ?_)
  · have hF := hF.trans (if_neg (fun e => hE.2 (hE.1.trans e)))
    have hok := Eq.mp (if_neg (fun e => hE.2 (hE.1.trans e))) hok
    have hP := hP.kept (fun k q hk => h2 q.1 ((hP k q hk).lt))
    have hS : va_S A s.heap H _ := ⟨Nat.le_trans hS.1 h1, fun q hq hA => (h2 q (Nat.lt_of_lt_of_le hq hS.1)).trans (hS.2.1 q hq hA), hS.2.2⟩
    by_cases c_3 : (f_X9_noticeAt q nb x).1 = "java/lang/IndexOutOfBoundsException"
    · have hF := hF.trans (if_pos c_3)
      have hok := Eq.mp (if_pos c_3) hok
      have hEE : E = "java/lang/IndexOutOfBoundsException" := hE.1.trans c_3
      subst hEE
      refine vx_catch (own := RL) (name := "java/lang/IndexOutOfBoundsException") hown [] (⟨0, 9, 12, 21⟩ : ExceptionTableEntry) [] (hxt.trans rfl) (fun z hz => nomatch hz) (by decide) (by decide) (hts _ u_608) (va_tabs rfl rfl (hST.2.2.2.2.2.2.2.1 _ cst_IndexOutOfBoundsException)) h3 h4 h5 ?_
      refine W.eq (g2 := F0 m 12 ls [.ref q9]) rfl ?_
      refine lv_astore_n (lv' := [(3, .ref q9), (0, .ref qh0), (1, .int x), (2, .ref owh)]) hx hb dL_noticeAt_12 rfl hl (by decide) rfl (fun ls hl => ?_)
      refine lv_iconst (v := (1 : Int32)) hx hb dL_noticeAt_13 (by decide) ?_
      exact w_ret (u := ((1 : Int32), ow)) hx hb hr hlk rfl hS rfl hF.symm hP hD (Nat.le_of_ble_eq_true rfl) (Nat.le_of_ble_eq_true rfl) dL_noticeAt_14
    · have hF := hF.trans (if_neg c_3)
      have hok := Eq.mp (if_neg c_3) hok
      exact hok.elim
  · have hE := b_2.1
    have b_2 := b_2.2
    have hF := hF.trans (if_pos hE)
    have hok := Eq.mp (if_pos hE) hok
    refine lv_i2l hx hb dL_noticeAt_7 rfl ?_
    refine va_last hx hb hK hP hD hS 3 3 rfl rfl (vp_in_nI (n := 0) (by decide) (by decide)) dL_noticeAt_8 (fun H locs hP hD hS => ?_)
    have hP : va_P G.1 vwCl (fl [[(qh0, .inr (11, [.ref q_state, .ref q_snapshot, .int q.1, .ref q_history, .ref q_program, .ref nbh0, .int q.2.1, .int q.2.2]))], [(nbh0, .inr (1, [.ref nbh1, .int (0 : Int32), .int nb.2.2.1, .int nb.2.2.2]))], [(nbh1, .inl (G.2.1 2, nb.1, .inl nb.2.1))], [(owh, .inl (G.2.1 3, 1, .inr (.inl (vp_updL ow (0 : Int32).toNatClampNeg (((f_X9_noticeAt q nb x).2).toInt64)))))]]) H := hP
    have hD : va_D A (fl [[(qh0, .inr (11, [.ref q_state, .ref q_snapshot, .int q.1, .ref q_history, .ref q_program, .ref nbh0, .int q.2.1, .int q.2.2]))], [(nbh0, .inr (1, [.ref nbh1, .int (0 : Int32), .int nb.2.2.1, .int nb.2.2.2]))], [(nbh1, .inl (G.2.1 2, nb.1, .inl nb.2.1))], [(owh, .inl (G.2.1 3, 1, .inr (.inl (vp_updL ow (0 : Int32).toNatClampNeg (((f_X9_noticeAt q nb x).2).toInt64)))))]]) := hD
    refine lv_goto (tgt := 15) hx hb dL_noticeAt_9 (by decide) ?_
    refine lv_iconst (v := (0 : Int32)) hx hb dL_noticeAt_15 (by decide) ?_
    exact w_ret (u := ((0 : Int32), (vp_updL ow (0 : Int32).toNatClampNeg (((f_X9_noticeAt q nb x).2).toInt64)))) hx hb hr hlk rfl hS rfl hF.symm hP hD (Nat.le_of_ble_eq_true rfl) (Nat.le_of_ble_eq_true rfl) dL_noticeAt_16
theorem dL_type_0 : decode cL_type 0 = .ok (.aload_n 2, 1) := by decide +kernel
theorem dL_type_1 : decode cL_type 1 = .ok (.iconst 0, 1) := by decide +kernel
theorem dL_type_2 : decode cL_type 2 = .ok (.aload_n 0, 1) := by decide +kernel
theorem dL_type_3 : decode cL_type 3 = .ok (.iload_n 1, 1) := by decide +kernel
theorem dL_type_4 : decode cL_type 4 = .ok (.invokevirtual 148, 3) := by decide +kernel
theorem u_1516 : Cond.methodLink RL 148 yX9_type ∈ UW := uw 1516 (by decide +kernel) rfl
theorem u_1517 : Cond.instanceMethod yX9_type ∈ UW := uw 1517 (by decide +kernel) rfl
theorem u_1518 : Cond.selects RX9 yX9_type yX9_type ∈ UW := uw 1518 (by decide +kernel) rfl
theorem u_1519 : Cond.code yX9_type cX9_type 2 (some .int) ∈ UW := uw 1519 (by decide +kernel) rfl
theorem g_L_148 : GoodIn UW (wsV RL 148 RX9 yX9_type (wsU yX9_type cX9_type 2 (some .int))) := gV u_1516 u_1517 u_1518 u_65 u_1519
theorem hdv_X9_type : yX9_type.cls = RX9 ∧ yX9_type.cls ≠ "java/lang/invoke/MethodHandle" ∧ yX9_type.cls ≠ "java/lang/invoke/VarHandle" ∧ (parseMethodDescriptor yX9_type.desc).map (fun d => d.parameters.length) = some 1 := by decide +kernel
theorem dL_type_7 : decode cL_type 7 = .ok (.i2l, 1) := by decide +kernel
theorem dL_type_8 : decode cL_type 8 = .ok (.lastore, 1) := by decide +kernel
theorem dL_type_9 : decode cL_type 9 = .ok (.goto 9, 3) := by decide +kernel
theorem dL_type_18 : decode cL_type 18 = .ok (.iconst 0, 1) := by decide +kernel
theorem dL_type_19 : decode cL_type 19 = .ok (.ireturn, 1) := by decide +kernel
theorem dL_type_12 : decode cL_type 12 = .ok (.astore_n 3, 1) := by decide +kernel
theorem dL_type_13 : decode cL_type 13 = .ok (.iconst 1, 1) := by decide +kernel
theorem dL_type_14 : decode cL_type 14 = .ok (.ireturn, 1) := by decide +kernel
theorem dL_type_15 : decode cL_type 15 = .ok (.astore_n 3, 1) := by decide +kernel
theorem dL_type_16 : decode cL_type 16 = .ok (.iconst 2, 1) := by decide +kernel
theorem dL_type_17 : decode cL_type 17 = .ok (.ireturn, 1) := by decide +kernel
def f_L_type (q : McV) (pg : PrV) (tb : SbV) (x : Int32) (ow : Nat → Int64) : Int32 × SbV × (Nat → Int64) := (let u_3 : String × Int32 × SbV := (f_X9_type q pg tb x); (if u_3.1 = "" then ((0 : Int32), u_3.2.2, (vp_updL ow (0 : Int32).toNatClampNeg u_3.2.1.toInt64)) else (if (f_X9_type q pg tb x).1 = "java/lang/IllegalArgumentException" then ((1 : Int32), tb, ow) else (if (f_X9_type q pg tb x).1 = "java/lang/IllegalStateException" then ((2 : Int32), tb, ow) else (0, tb, ow)))))
def ok_L_type (q : McV) (pg : PrV) (tb : SbV) (x : Int32) (ow : Nat → Int64) : Prop := (ok_X9_type q pg tb x ∧ (let u_3 : String × Int32 × SbV := (f_X9_type q pg tb x); (if u_3.1 = "" then True else (if (f_X9_type q pg tb x).1 = "java/lang/IllegalArgumentException" then True else (if (f_X9_type q pg tb x).1 = "java/lang/IllegalStateException" then True else False)))))
set_option maxHeartbeats 8000000 in
set_option maxRecDepth 100000 in
set_option linter.constructorNameAsVariable false in
theorem c_L_type (l : Launch) (hlf : l.stackTraces = false) (G : GG) (qh0 : Nat) (q_state : Nat) (q_snapshot : Nat) (q_history : Nat) (q_notice : Nat) (pgh0 : Nat) (tbh0 : Nat) (tbh1 : Nat) (owh : Nat) (sz : Nat) (q : McV) (pg : PrV) (tb : SbV) (x : Int32) (ow : Nat → Int64) (hok : ok_L_type q pg tb x ow) : wMetH l yL_type cL_type 4 (some .int) [(0, 9, 12, 13), (0, 9, 15, 15)] 10 2 206 G (fl [[(qh0, .inr (11, [.ref q_state, .ref q_snapshot, .int q.1, .ref q_history, .ref pgh0, .ref q_notice, .int q.2.1, .int q.2.2]))], [(pgh0, .inr (9, [.int pg.1, .int pg.2.1, .int pg.2.2.1, .int pg.2.2.2, .ref tbh0]))], [(tbh0, .inr (1, [.ref tbh1, .int (0 : Int32), .int tb.2.2.1, .int tb.2.2.2]))], [(tbh1, .inl (G.2.1 2, tb.1, .inl tb.2.1))], [(owh, .inl (G.2.1 3, 1, .inr (.inl ow)))]]) [.ref qh0, .int x, .ref owh] sz (fun u : Nat × Int32 × SbV × (Nat → Int64) => some (.int u.2.1)) (fun u : Nat × Int32 × SbV × (Nat → Int64) => u.2 = f_L_type q pg tb x ow) (fun u : Nat × Int32 × SbV × (Nat → Int64) => fl [[(qh0, .inr (11, [.ref q_state, .ref q_snapshot, .int q.1, .ref q_history, .ref pgh0, .ref q_notice, .int q.2.1, .int q.2.2]))], [(pgh0, .inr (9, [.int pg.1, .int pg.2.1, .int pg.2.2.1, .int pg.2.2.2, .ref tbh0]))], [(tbh0, .inr (1, [.ref u.1, .int (0 : Int32), .int u.2.2.1.2.2.1, .int u.2.2.1.2.2.2]))], [(u.1, .inl (G.2.1 2, u.2.2.1.1, .inl u.2.2.1.2.1))], [(owh, .inl (G.2.1 3, 1, .inr (.inl u.2.2.2)))]]) := by
  refine w_startH (by decide +kernel) (Nat.le_of_ble_eq_true rfl) ?_
  intro p e s m below meth c A hx hb hr hml hts hown hlk hin hxt hP hD hA hK hST ls hl
  have hS : va_S A s.heap s.heap [] := va_S.rf
  have hown : s.vm.findClass RL = some m.cls := hown
  have hl : lv_has ls 4 [(0, .ref qh0), (1, .int x), (2, .ref owh)] := hl
  have hF : f_L_type q pg tb x ow = (let u_3 : String × Int32 × SbV := (f_X9_type q pg tb x); (if u_3.1 = "" then ((0 : Int32), u_3.2.2, (vp_updL ow (0 : Int32).toNatClampNeg u_3.2.1.toInt64)) else (if (f_X9_type q pg tb x).1 = "java/lang/IllegalArgumentException" then ((1 : Int32), tb, ow) else (if (f_X9_type q pg tb x).1 = "java/lang/IllegalStateException" then ((2 : Int32), tb, ow) else (0, tb, ow))))) := rfl
  have hok : (ok_X9_type q pg tb x ∧ (let u_3 : String × Int32 × SbV := (f_X9_type q pg tb x); (if u_3.1 = "" then True else (if (f_X9_type q pg tb x).1 = "java/lang/IllegalArgumentException" then True else (if (f_X9_type q pg tb x).1 = "java/lang/IllegalStateException" then True else False))))) := hok
  refine lv_aload_n hx hb dL_type_0 rfl (lv_at hl 2 rfl) ?_
  refine lv_iconst (v := (0 : Int32)) hx hb dL_type_1 (by decide) ?_
  refine lv_aload_n hx hb dL_type_2 rfl (lv_at hl 0 rfl) ?_
  refine lv_iload_n hx hb dL_type_3 rfl (lv_at hl 1 rfl) ?_
  have k_1 := hok.1
  have hok := hok.2
  refine xw_V (own := RL) (cs := [[(qh0, .inr (11, [.ref q_state, .ref q_snapshot, .int q.1, .ref q_history, .ref pgh0, .ref q_notice, .int q.2.1, .int q.2.2]))], [(pgh0, .inr (9, [.int pg.1, .int pg.2.1, .int pg.2.2.1, .int pg.2.2.2, .ref tbh0]))], [(tbh0, .inr (1, [.ref tbh1, .int (0 : Int32), .int tb.2.2.1, .int tb.2.2.2]))], [(tbh1, .inl (G.2.1 2, tb.1, .inl tb.2.1))]]) (rs := [[(owh, .inl (G.2.1 3, 1, .inr (.inl ow)))]]) (As := [.int x]) (rest := [.int (0 : Int32), .ref owh]) (c_X9_type l hlf G qh0 q_state q_snapshot q_history q_notice pgh0 tbh0 tbh1 s.heap.size q pg tb x k_1) ⟨hx, hb, hml, hown, hts⟩ g_L_148 hdv_X9_type hK hST hS hP hD hA [0, 1, 2, 3] [4] rfl rfl rfl (k0 := 0) rfl rfl rfl ⟨Nat.le_of_ble_eq_true rfl, Nat.le_of_ble_eq_true rfl⟩ ⟨Nat.le_of_ble_eq_true rfl, Nat.le_of_ble_eq_true rfl⟩ rfl hl.1 rfl (Nat.le_of_ble_eq_true rfl) dL_type_4 (fun E ce q9 H locs hE hP hS h3 h4 h5 => ?_) (fun u_3 H locs huu hP hD hS => ?_)
  rotate_left
  obtain ⟨qu_3, u_3⟩ := u_3
  obtain ⟨huu, b_2⟩ := huu
  have huu : u_3 = (f_X9_type q pg tb x) := huu
  rw [← huu] at b_2
  have eu_3 : u_3 = (f_X9_type q pg tb x) := huu
  have hP : va_P G.1 vwCl (fl [[(qh0, .inr (11, [.ref q_state, .ref q_snapshot, .int q.1, .ref q_history, .ref pgh0, .ref q_notice, .int q.2.1, .int q.2.2]))], [(pgh0, .inr (9, [.int pg.1, .int pg.2.1, .int pg.2.2.1, .int pg.2.2.2, .ref tbh0]))], [(tbh0, .inr (1, [.ref qu_3, .int (0 : Int32), .int u_3.2.2.2.2.1, .int u_3.2.2.2.2.2]))], [(qu_3, .inl (G.2.1 2, u_3.2.2.1, .inl u_3.2.2.2.1))], [(owh, .inl (G.2.1 3, 1, .inr (.inl ow)))]]) H := hP
  have hD : va_D A (fl [[(qh0, .inr (11, [.ref q_state, .ref q_snapshot, .int q.1, .ref q_history, .ref pgh0, .ref q_notice, .int q.2.1, .int q.2.2]))], [(pgh0, .inr (9, [.int pg.1, .int pg.2.1, .int pg.2.2.1, .int pg.2.2.2, .ref tbh0]))], [(tbh0, .inr (1, [.ref qu_3, .int (0 : Int32), .int u_3.2.2.2.2.1, .int u_3.2.2.2.2.2]))], [(qu_3, .inl (G.2.1 2, u_3.2.2.1, .inl u_3.2.2.2.1))], [(owh, .inl (G.2.1 3, 1, .inr (.inl ow)))]]) := hD
  refine W.eq (g2 := F0 m 7 ls [.int u_3.2.1, .int (0 : Int32), .ref owh]) rfl ?_
  have hE := b_2.1
  have hF : f_L_type q pg tb x ow = (if u_3.1 = "" then ((0 : Int32), u_3.2.2, (vp_updL ow (0 : Int32).toNatClampNeg u_3.2.1.toInt64)) else (if (f_X9_type q pg tb x).1 = "java/lang/IllegalArgumentException" then ((1 : Int32), tb, ow) else (if (f_X9_type q pg tb x).1 = "java/lang/IllegalStateException" then ((2 : Int32), tb, ow) else (0, tb, ow)))) := by subst eu_3; exact hF
  have hF := hF.trans (if_pos hE)
  have hok : (if u_3.1 = "" then True else (if (f_X9_type q pg tb x).1 = "java/lang/IllegalArgumentException" then True else (if (f_X9_type q pg tb x).1 = "java/lang/IllegalStateException" then True else False))) := by subst eu_3; exact hok
  have hok := Eq.mp (if_pos hE) hok
  refine lv_i2l hx hb dL_type_7 rfl ?_
  refine va_last hx hb hK hP hD hS 4 3 rfl rfl (vp_in_nI (n := 0) (by decide) (by decide)) dL_type_8 (fun H locs hP hD hS => ?_)
  have hP : va_P G.1 vwCl (fl [[(qh0, .inr (11, [.ref q_state, .ref q_snapshot, .int q.1, .ref q_history, .ref pgh0, .ref q_notice, .int q.2.1, .int q.2.2]))], [(pgh0, .inr (9, [.int pg.1, .int pg.2.1, .int pg.2.2.1, .int pg.2.2.2, .ref tbh0]))], [(tbh0, .inr (1, [.ref qu_3, .int (0 : Int32), .int u_3.2.2.2.2.1, .int u_3.2.2.2.2.2]))], [(qu_3, .inl (G.2.1 2, u_3.2.2.1, .inl u_3.2.2.2.1))], [(owh, .inl (G.2.1 3, 1, .inr (.inl (vp_updL ow (0 : Int32).toNatClampNeg u_3.2.1.toInt64))))]]) H := hP
  have hD : va_D A (fl [[(qh0, .inr (11, [.ref q_state, .ref q_snapshot, .int q.1, .ref q_history, .ref pgh0, .ref q_notice, .int q.2.1, .int q.2.2]))], [(pgh0, .inr (9, [.int pg.1, .int pg.2.1, .int pg.2.2.1, .int pg.2.2.2, .ref tbh0]))], [(tbh0, .inr (1, [.ref qu_3, .int (0 : Int32), .int u_3.2.2.2.2.1, .int u_3.2.2.2.2.2]))], [(qu_3, .inl (G.2.1 2, u_3.2.2.1, .inl u_3.2.2.2.1))], [(owh, .inl (G.2.1 3, 1, .inr (.inl (vp_updL ow (0 : Int32).toNatClampNeg u_3.2.1.toInt64))))]]) := hD
  refine lv_goto (tgt := 18) hx hb dL_type_9 (by decide) ?_
  refine lv_iconst (v := (0 : Int32)) hx hb dL_type_18 (by decide) ?_
  exact w_ret (u := (qu_3, ((0 : Int32), u_3.2.2, (vp_updL ow (0 : Int32).toNatClampNeg u_3.2.1.toInt64)))) hx hb hr hlk rfl hS rfl hF.symm hP hD (Nat.le_of_ble_eq_true rfl) (Nat.le_of_ble_eq_true rfl) dL_type_19
  have hF := hF.trans (if_neg (fun e => hE.2 (hE.1.trans e)))
  have hok := Eq.mp (if_neg (fun e => hE.2 (hE.1.trans e))) hok
  by_cases c_4 : (f_X9_type q pg tb x).1 = "java/lang/IllegalArgumentException"
  · have hF := hF.trans (if_pos c_4)
    have hok := Eq.mp (if_pos c_4) hok
    have hEE : E = "java/lang/IllegalArgumentException" := hE.1.trans c_4
    subst hEE
    refine vx_catch (own := RL) (name := "java/lang/IllegalArgumentException") hown [] (⟨0, 9, 12, 13⟩ : ExceptionTableEntry) [(⟨0, 9, 15, 15⟩ : ExceptionTableEntry)] (hxt.trans rfl) (fun z hz => nomatch hz) (by decide) (by decide) (hts _ u_403) (va_tabs rfl rfl (hST.2.2.2.2.2.2.2.1 _ cst_IllegalArgumentException)) h3 h4 h5 ?_
    refine W.eq (g2 := F0 m 12 ls [.ref q9]) rfl ?_
    refine lv_astore_n (lv' := [(3, .ref q9), (0, .ref qh0), (1, .int x), (2, .ref owh)]) hx hb dL_type_12 rfl hl (by decide) rfl (fun ls hl => ?_)
    refine lv_iconst (v := (1 : Int32)) hx hb dL_type_13 (by decide) ?_
    exact w_ret (u := (tbh1, ((1 : Int32), tb, ow))) hx hb hr hlk rfl hS rfl hF.symm hP hD (Nat.le_of_ble_eq_true rfl) (Nat.le_of_ble_eq_true rfl) dL_type_14
  · have hF := hF.trans (if_neg c_4)
    have hok := Eq.mp (if_neg c_4) hok
    by_cases c_5 : (f_X9_type q pg tb x).1 = "java/lang/IllegalStateException"
    · have hF := hF.trans (if_pos c_5)
      have hok := Eq.mp (if_pos c_5) hok
      have hEE : E = "java/lang/IllegalStateException" := hE.1.trans c_5
      subst hEE
      refine vx_catch (own := RL) (name := "java/lang/IllegalStateException") hown [(⟨0, 9, 12, 13⟩ : ExceptionTableEntry)] (⟨0, 9, 15, 15⟩ : ExceptionTableEntry) [] (hxt.trans rfl) (List.forall_mem_cons.mpr ⟨Or.inr ⟨by decide, "java/lang/IllegalArgumentException", hts _ u_403, hST.2.2.2.2.2.2.2.2.1 ("java/lang/IllegalStateException", "java/lang/IllegalArgumentException") (by decide +kernel)⟩, fun _ h => nomatch h⟩) (by decide) (by decide) (hts _ u_404) (va_tabs rfl rfl (hST.2.2.2.2.2.2.2.1 _ cst_IllegalStateException)) h3 h4 h5 ?_
      refine W.eq (g2 := F0 m 15 ls [.ref q9]) rfl ?_
      refine lv_astore_n (lv' := [(3, .ref q9), (0, .ref qh0), (1, .int x), (2, .ref owh)]) hx hb dL_type_15 rfl hl (by decide) rfl (fun ls hl => ?_)
      refine lv_iconst (v := (2 : Int32)) hx hb dL_type_16 (by decide) ?_
      exact w_ret (u := (tbh1, ((2 : Int32), tb, ow))) hx hb hr hlk rfl hS rfl hF.symm hP hD (Nat.le_of_ble_eq_true rfl) (Nat.le_of_ble_eq_true rfl) dL_type_17
    · have hF := hF.trans (if_neg c_5)
      have hok := Eq.mp (if_neg c_5) hok
      exact hok.elim
