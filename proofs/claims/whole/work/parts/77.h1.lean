theorem dL_hourCount_0 : decode cL_hourCount 0 = .ok (.aload_n 2, 1) := by decide +kernel
theorem dL_hourCount_1 : decode cL_hourCount 1 = .ok (.iconst 0, 1) := by decide +kernel
theorem dL_hourCount_2 : decode cL_hourCount 2 = .ok (.aload_n 0, 1) := by decide +kernel
theorem dL_hourCount_3 : decode cL_hourCount 3 = .ok (.iload_n 1, 1) := by decide +kernel
theorem dL_hourCount_4 : decode cL_hourCount 4 = .ok (.invokevirtual 48, 3) := by decide +kernel
theorem u_761 : Cond.methodLink RL 48 yX9_hourCount ∈ UW := uw 761 (by decide +kernel) rfl
theorem u_762 : Cond.instanceMethod yX9_hourCount ∈ UW := uw 762 (by decide +kernel) rfl
theorem u_763 : Cond.selects RX9 yX9_hourCount yX9_hourCount ∈ UW := uw 763 (by decide +kernel) rfl
theorem u_764 : Cond.code yX9_hourCount cX9_hourCount 2 (some .int) ∈ UW := uw 764 (by decide +kernel) rfl
theorem g_L_48 : GoodIn UW (wsV RL 48 RX9 yX9_hourCount (wsU yX9_hourCount cX9_hourCount 2 (some .int))) := gV u_761 u_762 u_763 u_65 u_764
theorem hdv_X9_hourCount : yX9_hourCount.cls = RX9 ∧ yX9_hourCount.cls ≠ "java/lang/invoke/MethodHandle" ∧ yX9_hourCount.cls ≠ "java/lang/invoke/VarHandle" ∧ (parseMethodDescriptor yX9_hourCount.desc).map (fun d => d.parameters.length) = some 1 := by decide +kernel
theorem dL_hourCount_12 : decode cL_hourCount 12 = .ok (.astore_n 3, 1) := by decide +kernel
theorem dL_hourCount_13 : decode cL_hourCount 13 = .ok (.iconst 1, 1) := by decide +kernel
theorem dL_hourCount_14 : decode cL_hourCount 14 = .ok (.ireturn, 1) := by decide +kernel
theorem dL_hourCount_7 : decode cL_hourCount 7 = .ok (.i2l, 1) := by decide +kernel
theorem dL_hourCount_8 : decode cL_hourCount 8 = .ok (.lastore, 1) := by decide +kernel
theorem dL_hourCount_9 : decode cL_hourCount 9 = .ok (.goto 6, 3) := by decide +kernel
theorem dL_hourCount_15 : decode cL_hourCount 15 = .ok (.iconst 0, 1) := by decide +kernel
theorem dL_hourCount_16 : decode cL_hourCount 16 = .ok (.ireturn, 1) := by decide +kernel
def f_L_hourCount (q : McV) (v : StV) (x : Int32) (ow : Nat → Int64) : Int32 × (Nat → Int64) := (if (f_X9_hourCount q v x).1 = "" then ((0 : Int32), (vp_updL ow (0 : Int32).toNatClampNeg (((f_X9_hourCount q v x).2).toInt64))) else (if (f_X9_hourCount q v x).1 = "java/lang/IndexOutOfBoundsException" then ((1 : Int32), ow) else (0, ow)))
def ok_L_hourCount (q : McV) (v : StV) (x : Int32) (ow : Nat → Int64) : Prop := (if (f_X9_hourCount q v x).1 = "" then True else (if (f_X9_hourCount q v x).1 = "java/lang/IndexOutOfBoundsException" then True else False))
set_option maxHeartbeats 8000000 in
set_option maxRecDepth 100000 in
set_option linter.constructorNameAsVariable false in
theorem c_L_hourCount (l : Launch) (hlf : l.stackTraces = false) (G : GG) (qh0 : Nat) (q_snapshot : Nat) (q_history : Nat) (q_program : Nat) (q_notice : Nat) (va : Nat → Nat) (owh : Nat) (sz : Nat) (q : McV) (v : StV) (x : Int32) (ow : Nat → Int64) (hok : ok_L_hourCount q v x ow) : wMetH l yL_hourCount cL_hourCount 4 (some .int) [(0, 9, 12, 21)] 10 1 6 G (fl [[(qh0, .inr (11, [.ref (va 0), .ref q_snapshot, .int q.1, .ref q_history, .ref q_program, .ref q_notice, .int q.2.1, .int q.2.2]))], wSt G va v, [(owh, .inl (G.2.1 3, 1, .inr (.inl ow)))]]) [.ref qh0, .int x, .ref owh] sz (fun u : Int32 × (Nat → Int64) => some (.int u.1)) (fun u : Int32 × (Nat → Int64) => u = f_L_hourCount q v x ow) (fun u : Int32 × (Nat → Int64) => fl [[(qh0, .inr (11, [.ref (va 0), .ref q_snapshot, .int q.1, .ref q_history, .ref q_program, .ref q_notice, .int q.2.1, .int q.2.2]))], wSt G va v, [(owh, .inl (G.2.1 3, 1, .inr (.inl u.2)))]]) := by
  refine w_startH (by decide +kernel) (Nat.le_of_ble_eq_true rfl) ?_
  intro p e s m below meth c A hx hb hr hml hts hown hlk hin hxt hP hD hA hK hST ls hl
  have hS : va_S A s.heap s.heap [] := va_S.rf
  have hown : s.vm.findClass RL = some m.cls := hown
  have hl : lv_has ls 4 [(0, .ref qh0), (1, .int x), (2, .ref owh)] := hl
  have hF : f_L_hourCount q v x ow = (if (f_X9_hourCount q v x).1 = "" then ((0 : Int32), (vp_updL ow (0 : Int32).toNatClampNeg (((f_X9_hourCount q v x).2).toInt64))) else (if (f_X9_hourCount q v x).1 = "java/lang/IndexOutOfBoundsException" then ((1 : Int32), ow) else (0, ow))) := rfl
  have hok : (if (f_X9_hourCount q v x).1 = "" then True else (if (f_X9_hourCount q v x).1 = "java/lang/IndexOutOfBoundsException" then True else False)) := hok
  refine lv_aload_n hx hb dL_hourCount_0 rfl (lv_at hl 2 rfl) ?_
  refine lv_iconst (v := (0 : Int32)) hx hb dL_hourCount_1 (by decide) ?_
  refine lv_aload_n hx hb dL_hourCount_2 rfl (lv_at hl 0 rfl) ?_
  refine lv_iload_n hx hb dL_hourCount_3 rfl (lv_at hl 1 rfl) ?_
  refine xr_V (own := RL) (v := (some (.int ((f_X9_hourCount q v x).2)))) (st1 := [.int ((f_X9_hourCount q v x).2), .int (0 : Int32), .ref owh]) (As := [.int x]) (rest := [.int (0 : Int32), .ref owh]) (c_X9_hourCountS l hlf G qh0 q_snapshot q_history q_program q_notice va q v x) ⟨hx, hb, hml, hown, hts⟩ g_L_48 hdv_X9_hourCount hK hST hS hP [0, 1, 2, 3, 4, 5, 6, 7, 8, 9, 10, 11, 12, 13, 14, 15, 16, 17, 18, 19, 20] rfl (k0 := 0) rfl rfl rfl ⟨Nat.le_of_ble_eq_true rfl, Nat.le_of_ble_eq_true rfl⟩ ⟨Nat.le_of_ble_eq_true rfl, Nat.le_of_ble_eq_true rfl⟩ rfl hl.1 rfl (Nat.le_of_ble_eq_true rfl) dL_hourCount_4 rfl (fun E ce q9 H hE h1 h2 h3 h4 h5 => ?_) (fun b_1 => ?_)
  · have hF := hF.trans (if_neg (fun e => hE.2 (hE.1.trans e)))
    have hok := Eq.mp (if_neg (fun e => hE.2 (hE.1.trans e))) hok
    have hP := hP.kept (fun k q hk => h2 q.1 ((hP k q hk).lt))
    have hS : va_S A s.heap H _ := ⟨Nat.le_trans hS.1 h1, fun q hq hA => (h2 q (Nat.lt_of_lt_of_le hq hS.1)).trans (hS.2.1 q hq hA), hS.2.2⟩
    by_cases c_2 : (f_X9_hourCount q v x).1 = "java/lang/IndexOutOfBoundsException"
    · have hF := hF.trans (if_pos c_2)
      have hok := Eq.mp (if_pos c_2) hok
      have hEE : E = "java/lang/IndexOutOfBoundsException" := hE.1.trans c_2
      subst hEE
      refine vx_catch (own := RL) (name := "java/lang/IndexOutOfBoundsException") hown [] (⟨0, 9, 12, 21⟩ : ExceptionTableEntry) [] (hxt.trans rfl) (fun z hz => nomatch hz) (by decide) (by decide) (hts _ u_608) (va_tabs rfl rfl (hST.2.2.2.2.2.2.2.1 _ cst_IndexOutOfBoundsException)) h3 h4 h5 ?_
      refine W.eq (g2 := F0 m 12 ls [.ref q9]) rfl ?_
      refine lv_astore_n (lv' := [(3, .ref q9), (0, .ref qh0), (1, .int x), (2, .ref owh)]) hx hb dL_hourCount_12 rfl hl (by decide) rfl (fun ls hl => ?_)
      refine lv_iconst (v := (1 : Int32)) hx hb dL_hourCount_13 (by decide) ?_
      exact w_ret (u := ((1 : Int32), ow)) hx hb hr hlk rfl hS rfl hF.symm hP hD (Nat.le_of_ble_eq_true rfl) (Nat.le_of_ble_eq_true rfl) dL_hourCount_14
    · have hF := hF.trans (if_neg c_2)
      have hok := Eq.mp (if_neg c_2) hok
      exact hok.elim
  · have hE := b_1.1
    have b_1 := b_1.2
    have hF := hF.trans (if_pos hE)
    have hok := Eq.mp (if_pos hE) hok
    refine lv_i2l hx hb dL_hourCount_7 rfl ?_
    refine va_last hx hb hK hP hD hS 21 3 rfl rfl (vp_in_nI (n := 0) (by decide) (by decide)) dL_hourCount_8 (fun H locs hP hD hS => ?_)
    have hP : va_P G.1 vwCl (fl [[(qh0, .inr (11, [.ref (va 0), .ref q_snapshot, .int q.1, .ref q_history, .ref q_program, .ref q_notice, .int q.2.1, .int q.2.2]))], wSt G va v, [(owh, .inl (G.2.1 3, 1, .inr (.inl (vp_updL ow (0 : Int32).toNatClampNeg (((f_X9_hourCount q v x).2).toInt64)))))]]) H := hP
    have hD : va_D A (fl [[(qh0, .inr (11, [.ref (va 0), .ref q_snapshot, .int q.1, .ref q_history, .ref q_program, .ref q_notice, .int q.2.1, .int q.2.2]))], wSt G va v, [(owh, .inl (G.2.1 3, 1, .inr (.inl (vp_updL ow (0 : Int32).toNatClampNeg (((f_X9_hourCount q v x).2).toInt64)))))]]) := hD
    refine lv_goto (tgt := 15) hx hb dL_hourCount_9 (by decide) ?_
    refine lv_iconst (v := (0 : Int32)) hx hb dL_hourCount_15 (by decide) ?_
    exact w_ret (u := ((0 : Int32), (vp_updL ow (0 : Int32).toNatClampNeg (((f_X9_hourCount q v x).2).toInt64)))) hx hb hr hlk rfl hS rfl hF.symm hP hD (Nat.le_of_ble_eq_true rfl) (Nat.le_of_ble_eq_true rfl) dL_hourCount_16
theorem dL_hasException_0 : decode cL_hasException 0 = .ok (.aload_n 3, 1) := by decide +kernel
theorem dL_hasException_1 : decode cL_hasException 1 = .ok (.iconst 0, 1) := by decide +kernel
theorem dL_hasException_2 : decode cL_hasException 2 = .ok (.aload_n 0, 1) := by decide +kernel
theorem dL_hasException_3 : decode cL_hasException 3 = .ok (.iload_n 1, 1) := by decide +kernel
theorem dL_hasException_4 : decode cL_hasException 4 = .ok (.iload_n 2, 1) := by decide +kernel
theorem dL_hasException_5 : decode cL_hasException 5 = .ok (.invokevirtual 51, 3) := by decide +kernel
theorem u_773 : Cond.methodLink RL 51 yX9_hasException ∈ UW := uw 773 (by decide +kernel) rfl
theorem u_774 : Cond.instanceMethod yX9_hasException ∈ UW := uw 774 (by decide +kernel) rfl
theorem u_775 : Cond.selects RX9 yX9_hasException yX9_hasException ∈ UW := uw 775 (by decide +kernel) rfl
theorem u_776 : Cond.code yX9_hasException cX9_hasException 3 (some .boolean) ∈ UW := uw 776 (by decide +kernel) rfl
theorem g_L_51 : GoodIn UW (wsV RL 51 RX9 yX9_hasException (wsU yX9_hasException cX9_hasException 3 (some .boolean))) := gV u_773 u_774 u_775 u_65 u_776
theorem hdv_X9_hasException : yX9_hasException.cls = RX9 ∧ yX9_hasException.cls ≠ "java/lang/invoke/MethodHandle" ∧ yX9_hasException.cls ≠ "java/lang/invoke/VarHandle" ∧ (parseMethodDescriptor yX9_hasException.desc).map (fun d => d.parameters.length) = some 2 := by decide +kernel
theorem dL_hasException_20 : decode cL_hasException 20 = .ok (.astore 4, 2) := by decide +kernel
theorem dL_hasException_22 : decode cL_hasException 22 = .ok (.iconst 1, 1) := by decide +kernel
theorem dL_hasException_23 : decode cL_hasException 23 = .ok (.ireturn, 1) := by decide +kernel
theorem dL_hasException_8 : decode cL_hasException 8 = .ok (.ifCond .eq 7, 3) := by decide +kernel
theorem dL_hasException_15 : decode cL_hasException 15 = .ok (.lconst 0, 1) := by decide +kernel
theorem dL_hasException_16 : decode cL_hasException 16 = .ok (.lastore, 1) := by decide +kernel
theorem dL_hasException_17 : decode cL_hasException 17 = .ok (.goto 7, 3) := by decide +kernel
theorem dL_hasException_24 : decode cL_hasException 24 = .ok (.iconst 0, 1) := by decide +kernel
theorem dL_hasException_25 : decode cL_hasException 25 = .ok (.ireturn, 1) := by decide +kernel
theorem dL_hasException_11 : decode cL_hasException 11 = .ok (.lconst 1, 1) := by decide +kernel
theorem dL_hasException_12 : decode cL_hasException 12 = .ok (.goto 4, 3) := by decide +kernel
def f_L_hasException (q : McV) (v : StV) (x : Int32) (y : Int32) (ow : Nat → Int64) : Int32 × (Nat → Int64) := (if (f_X9_hasException q v x y).1 = "" then (if (f_X9_hasException q v x y).2 = (0 : Int32) then ((0 : Int32), (vp_updL ow (0 : Int32).toNatClampNeg (0 : Int64))) else ((0 : Int32), (vp_updL ow (0 : Int32).toNatClampNeg (1 : Int64)))) else (if (f_X9_hasException q v x y).1 = "java/lang/IndexOutOfBoundsException" then ((1 : Int32), ow) else (0, ow)))
def ok_L_hasException (q : McV) (v : StV) (x : Int32) (y : Int32) (ow : Nat → Int64) : Prop := (if (f_X9_hasException q v x y).1 = "" then True else (if (f_X9_hasException q v x y).1 = "java/lang/IndexOutOfBoundsException" then True else False))
set_option maxHeartbeats 8000000 in
set_option maxRecDepth 100000 in
set_option linter.constructorNameAsVariable false in
theorem c_L_hasException (l : Launch) (hlf : l.stackTraces = false) (G : GG) (qh0 : Nat) (q_snapshot : Nat) (q_history : Nat) (q_program : Nat) (q_notice : Nat) (va : Nat → Nat) (owh : Nat) (sz : Nat) (q : McV) (v : StV) (x : Int32) (y : Int32) (ow : Nat → Int64) (hok : ok_L_hasException q v x y ow) : wMetH l yL_hasException cL_hasException 5 (some .int) [(0, 17, 20, 21)] 10 1 6 G (fl [[(qh0, .inr (11, [.ref (va 0), .ref q_snapshot, .int q.1, .ref q_history, .ref q_program, .ref q_notice, .int q.2.1, .int q.2.2]))], wSt G va v, [(owh, .inl (G.2.1 3, 1, .inr (.inl ow)))]]) [.ref qh0, .int x, .int y, .ref owh] sz (fun u : Int32 × (Nat → Int64) => some (.int u.1)) (fun u : Int32 × (Nat → Int64) => u = f_L_hasException q v x y ow) (fun u : Int32 × (Nat → Int64) => fl [[(qh0, .inr (11, [.ref (va 0), .ref q_snapshot, .int q.1, .ref q_history, .ref q_program, .ref q_notice, .int q.2.1, .int q.2.2]))], wSt G va v, [(owh, .inl (G.2.1 3, 1, .inr (.inl u.2)))]]) := by
  refine w_startH (by decide +kernel) (Nat.le_of_ble_eq_true rfl) ?_
  intro p e s m below meth c A hx hb hr hml hts hown hlk hin hxt hP hD hA hK hST ls hl
  have hS : va_S A s.heap s.heap [] := va_S.rf
  have hown : s.vm.findClass RL = some m.cls := hown
  have hl : lv_has ls 5 [(0, .ref qh0), (1, .int x), (2, .int y), (3, .ref owh)] := hl
  have hF : f_L_hasException q v x y ow = (if (f_X9_hasException q v x y).1 = "" then (if (f_X9_hasException q v x y).2 = (0 : Int32) then ((0 : Int32), (vp_updL ow (0 : Int32).toNatClampNeg (0 : Int64))) else ((0 : Int32), (vp_updL ow (0 : Int32).toNatClampNeg (1 : Int64)))) else (if (f_X9_hasException q v x y).1 = "java/lang/IndexOutOfBoundsException" then ((1 : Int32), ow) else (0, ow))) := rfl
  have hok : (if (f_X9_hasException q v x y).1 = "" then True else (if (f_X9_hasException q v x y).1 = "java/lang/IndexOutOfBoundsException" then True else False)) := hok
  refine lv_aload_n hx hb dL_hasException_0 rfl (lv_at hl 3 rfl) ?_
  refine lv_iconst (v := (0 : Int32)) hx hb dL_hasException_1 (by decide) ?_
  refine lv_aload_n hx hb dL_hasException_2 rfl (lv_at hl 0 rfl) ?_
  refine lv_iload_n hx hb dL_hasException_3 rfl (lv_at hl 1 rfl) ?_
  refine lv_iload_n hx hb dL_hasException_4 rfl (lv_at hl 2 rfl) ?_
  refine xr_V (own := RL) (v := (some (.int ((f_X9_hasException q v x y).2)))) (st1 := [.int ((f_X9_hasException q v x y).2), .int (0 : Int32), .ref owh]) (As := [.int x, .int y]) (rest := [.int (0 : Int32), .ref owh]) (c_X9_hasExceptionS l hlf G qh0 q_snapshot q_history q_program q_notice va q v x y) ⟨hx, hb, hml, hown, hts⟩ g_L_51 hdv_X9_hasException hK hST hS hP [0, 1, 2, 3, 4, 5, 6, 7, 8, 9, 10, 11, 12, 13, 14, 15, 16, 17, 18, 19, 20] rfl (k0 := 0) rfl rfl rfl ⟨Nat.le_of_ble_eq_true rfl, Nat.le_of_ble_eq_true rfl⟩ ⟨Nat.le_of_ble_eq_true rfl, Nat.le_of_ble_eq_true rfl⟩ rfl hl.1 rfl (Nat.le_of_ble_eq_true rfl) dL_hasException_5 rfl (fun E ce q9 H hE h1 h2 h3 h4 h5 => ?_) (fun b_1 => ?_)
  · have hF := hF.trans (if_neg (fun e => hE.2 (hE.1.trans e)))
    have hok := Eq.mp (if_neg (fun e => hE.2 (hE.1.trans e))) hok
    have hP := hP.kept (fun k q hk => h2 q.1 ((hP k q hk).lt))
    have hS : va_S A s.heap H _ := ⟨Nat.le_trans hS.1 h1, fun q hq hA => (h2 q (Nat.lt_of_lt_of_le hq hS.1)).trans (hS.2.1 q hq hA), hS.2.2⟩
    by_cases c_2 : (f_X9_hasException q v x y).1 = "java/lang/IndexOutOfBoundsException"
    · have hF := hF.trans (if_pos c_2)
      have hok := Eq.mp (if_pos c_2) hok
      have hEE : E = "java/lang/IndexOutOfBoundsException" := hE.1.trans c_2
      subst hEE
      refine vx_catch (own := RL) (name := "java/lang/IndexOutOfBoundsException") hown [] (⟨0, 17, 20, 21⟩ : ExceptionTableEntry) [] (hxt.trans rfl) (fun z hz => nomatch hz) (by decide) (by decide) (hts _ u_608) (va_tabs rfl rfl (hST.2.2.2.2.2.2.2.1 _ cst_IndexOutOfBoundsException)) h3 h4 h5 ?_
      refine W.eq (g2 := F0 m 20 ls [.ref q9]) rfl ?_
      refine lv_astore (lv' := [(4, .ref q9), (0, .ref qh0), (1, .int x), (2, .int y), (3, .ref owh)]) hx hb dL_hasException_20 hl (by decide) rfl (fun ls hl => ?_)
      refine lv_iconst (v := (1 : Int32)) hx hb dL_hasException_22 (by decide) ?_
      exact w_ret (u := ((1 : Int32), ow)) hx hb hr hlk rfl hS rfl hF.symm hP hD (Nat.le_of_ble_eq_true rfl) (Nat.le_of_ble_eq_true rfl) dL_hasException_23
    · have hF := hF.trans (if_neg c_2)
      have hok := Eq.mp (if_neg c_2) hok
      exact hok.elim
  · have hE := b_1.1
    have b_1 := b_1.2
    have hF := hF.trans (if_pos hE)
    have hok := Eq.mp (if_pos hE) hok
    refine lv_if_eq (tgt := 15) hx hb dL_hasException_8 (by decide) (fun c_3 => ?_) (fun c_3 => ?_)
    · have hF := hF.trans (if_pos c_3)
      refine lv_lconst (v := (0 : Int64)) hx hb dL_hasException_15 (by decide) ?_
      refine va_last hx hb hK hP hD hS 21 3 rfl rfl (vp_in_nI (n := 0) (by decide) (by decide)) dL_hasException_16 (fun H locs hP hD hS => ?_)
      have hP : va_P G.1 vwCl (fl [[(qh0, .inr (11, [.ref (va 0), .ref q_snapshot, .int q.1, .ref q_history, .ref q_program, .ref q_notice, .int q.2.1, .int q.2.2]))], wSt G va v, [(owh, .inl (G.2.1 3, 1, .inr (.inl (vp_updL ow (0 : Int32).toNatClampNeg (0 : Int64)))))]]) H := hP
      have hD : va_D A (fl [[(qh0, .inr (11, [.ref (va 0), .ref q_snapshot, .int q.1, .ref q_history, .ref q_program, .ref q_notice, .int q.2.1, .int q.2.2]))], wSt G va v, [(owh, .inl (G.2.1 3, 1, .inr (.inl (vp_updL ow (0 : Int32).toNatClampNeg (0 : Int64)))))]]) := hD
      refine lv_goto (tgt := 24) hx hb dL_hasException_17 (by decide) ?_
      refine lv_iconst (v := (0 : Int32)) hx hb dL_hasException_24 (by decide) ?_
      exact w_ret (u := ((0 : Int32), (vp_updL ow (0 : Int32).toNatClampNeg (0 : Int64)))) hx hb hr hlk rfl hS rfl hF.symm hP hD (Nat.le_of_ble_eq_true rfl) (Nat.le_of_ble_eq_true rfl) dL_hasException_25
    · have hF := hF.trans (if_neg c_3)
      refine lv_lconst (v := (1 : Int64)) hx hb dL_hasException_11 (by decide) ?_
      refine lv_goto (tgt := 16) hx hb dL_hasException_12 (by decide) ?_
      refine va_last hx hb hK hP hD hS 21 3 rfl rfl (vp_in_nI (n := 0) (by decide) (by decide)) dL_hasException_16 (fun H locs hP hD hS => ?_)
      have hP : va_P G.1 vwCl (fl [[(qh0, .inr (11, [.ref (va 0), .ref q_snapshot, .int q.1, .ref q_history, .ref q_program, .ref q_notice, .int q.2.1, .int q.2.2]))], wSt G va v, [(owh, .inl (G.2.1 3, 1, .inr (.inl (vp_updL ow (0 : Int32).toNatClampNeg (1 : Int64)))))]]) H := hP
      have hD : va_D A (fl [[(qh0, .inr (11, [.ref (va 0), .ref q_snapshot, .int q.1, .ref q_history, .ref q_program, .ref q_notice, .int q.2.1, .int q.2.2]))], wSt G va v, [(owh, .inl (G.2.1 3, 1, .inr (.inl (vp_updL ow (0 : Int32).toNatClampNeg (1 : Int64)))))]]) := hD
      refine lv_goto (tgt := 24) hx hb dL_hasException_17 (by decide) ?_
      refine lv_iconst (v := (0 : Int32)) hx hb dL_hasException_24 (by decide) ?_
      exact w_ret (u := ((0 : Int32), (vp_updL ow (0 : Int32).toNatClampNeg (1 : Int64)))) hx hb hr hlk rfl hS rfl hF.symm hP hD (Nat.le_of_ble_eq_true rfl) (Nat.le_of_ble_eq_true rfl) dL_hasException_25
theorem dL_exceptionDoor_0 : decode cL_exceptionDoor 0 = .ok (.aload_n 2, 1) := by decide +kernel
theorem dL_exceptionDoor_1 : decode cL_exceptionDoor 1 = .ok (.iconst 0, 1) := by decide +kernel
theorem dL_exceptionDoor_2 : decode cL_exceptionDoor 2 = .ok (.aload_n 0, 1) := by decide +kernel
theorem dL_exceptionDoor_3 : decode cL_exceptionDoor 3 = .ok (.iload_n 1, 1) := by decide +kernel
theorem dL_exceptionDoor_4 : decode cL_exceptionDoor 4 = .ok (.invokevirtual 54, 3) := by decide +kernel
theorem u_781 : Cond.methodLink RL 54 yX9_exceptionDoor ∈ UW := uw 781 (by decide +kernel) rfl
theorem u_782 : Cond.instanceMethod yX9_exceptionDoor ∈ UW := uw 782 (by decide +kernel) rfl
theorem u_783 : Cond.selects RX9 yX9_exceptionDoor yX9_exceptionDoor ∈ UW := uw 783 (by decide +kernel) rfl
theorem u_784 : Cond.code yX9_exceptionDoor cX9_exceptionDoor 2 (some .int) ∈ UW := uw 784 (by decide +kernel) rfl
theorem g_L_54 : GoodIn UW (wsV RL 54 RX9 yX9_exceptionDoor (wsU yX9_exceptionDoor cX9_exceptionDoor 2 (some .int))) := gV u_781 u_782 u_783 u_65 u_784
theorem hdv_X9_exceptionDoor : yX9_exceptionDoor.cls = RX9 ∧ yX9_exceptionDoor.cls ≠ "java/lang/invoke/MethodHandle" ∧ yX9_exceptionDoor.cls ≠ "java/lang/invoke/VarHandle" ∧ (parseMethodDescriptor yX9_exceptionDoor.desc).map (fun d => d.parameters.length) = some 1 := by decide +kernel
theorem dL_exceptionDoor_12 : decode cL_exceptionDoor 12 = .ok (.astore_n 3, 1) := by decide +kernel
theorem dL_exceptionDoor_13 : decode cL_exceptionDoor 13 = .ok (.iconst 1, 1) := by decide +kernel
theorem dL_exceptionDoor_14 : decode cL_exceptionDoor 14 = .ok (.ireturn, 1) := by decide +kernel
theorem dL_exceptionDoor_7 : decode cL_exceptionDoor 7 = .ok (.i2l, 1) := by decide +kernel
theorem dL_exceptionDoor_8 : decode cL_exceptionDoor 8 = .ok (.lastore, 1) := by decide +kernel
theorem dL_exceptionDoor_9 : decode cL_exceptionDoor 9 = .ok (.goto 6, 3) := by decide +kernel
theorem dL_exceptionDoor_15 : decode cL_exceptionDoor 15 = .ok (.iconst 0, 1) := by decide +kernel
theorem dL_exceptionDoor_16 : decode cL_exceptionDoor 16 = .ok (.ireturn, 1) := by decide +kernel
def f_L_exceptionDoor (q : McV) (v : StV) (x : Int32) (ow : Nat → Int64) : Int32 × (Nat → Int64) := (if (f_X9_exceptionDoor q v x).1 = "" then ((0 : Int32), (vp_updL ow (0 : Int32).toNatClampNeg (((f_X9_exceptionDoor q v x).2).toInt64))) else (if (f_X9_exceptionDoor q v x).1 = "java/util/NoSuchElementException" then ((1 : Int32), ow) else (0, ow)))
def ok_L_exceptionDoor (q : McV) (v : StV) (x : Int32) (ow : Nat → Int64) : Prop := (if (f_X9_exceptionDoor q v x).1 = "" then True else (if (f_X9_exceptionDoor q v x).1 = "java/util/NoSuchElementException" then True else False))
set_option maxHeartbeats 8000000 in
set_option maxRecDepth 100000 in
set_option linter.constructorNameAsVariable false in
theorem c_L_exceptionDoor (l : Launch) (hlf : l.stackTraces = false) (G : GG) (qh0 : Nat) (q_snapshot : Nat) (q_history : Nat) (q_program : Nat) (q_notice : Nat) (va : Nat → Nat) (owh : Nat) (sz : Nat) (q : McV) (v : StV) (x : Int32) (ow : Nat → Int64) (hok : ok_L_exceptionDoor q v x ow) : wMetH l yL_exceptionDoor cL_exceptionDoor 4 (some .int) [(0, 9, 12, 33)] 10 1 6 G (fl [[(qh0, .inr (11, [.ref (va 0), .ref q_snapshot, .int q.1, .ref q_history, .ref q_program, .ref q_notice, .int q.2.1, .int q.2.2]))], wSt G va v, [(owh, .inl (G.2.1 3, 1, .inr (.inl ow)))]]) [.ref qh0, .int x, .ref owh] sz (fun u : Int32 × (Nat → Int64) => some (.int u.1)) (fun u : Int32 × (Nat → Int64) => u = f_L_exceptionDoor q v x ow) (fun u : Int32 × (Nat → Int64) => fl [[(qh0, .inr (11, [.ref (va 0), .ref q_snapshot, .int q.1, .ref q_history, .ref q_program, .ref q_notice, .int q.2.1, .int q.2.2]))], wSt G va v, [(owh, .inl (G.2.1 3, 1, .inr (.inl u.2)))]]) := by
  refine w_startH (by decide +kernel) (Nat.le_of_ble_eq_true rfl) ?_
  intro p e s m below meth c A hx hb hr hml hts hown hlk hin hxt hP hD hA hK hST ls hl
  have hS : va_S A s.heap s.heap [] := va_S.rf
  have hown : s.vm.findClass RL = some m.cls := hown
  have hl : lv_has ls 4 [(0, .ref qh0), (1, .int x), (2, .ref owh)] := hl
  have hF : f_L_exceptionDoor q v x ow = (if (f_X9_exceptionDoor q v x).1 = "" then ((0 : Int32), (vp_updL ow (0 : Int32).toNatClampNeg (((f_X9_exceptionDoor q v x).2).toInt64))) else (if (f_X9_exceptionDoor q v x).1 = "java/util/NoSuchElementException" then ((1 : Int32), ow) else (0, ow))) := rfl
  have hok : (if (f_X9_exceptionDoor q v x).1 = "" then True else (if (f_X9_exceptionDoor q v x).1 = "java/util/NoSuchElementException" then True else False)) := hok
  refine lv_aload_n hx hb dL_exceptionDoor_0 rfl (lv_at hl 2 rfl) ?_
  refine lv_iconst (v := (0 : Int32)) hx hb dL_exceptionDoor_1 (by decide) ?_
  refine lv_aload_n hx hb dL_exceptionDoor_2 rfl (lv_at hl 0 rfl) ?_
  refine lv_iload_n hx hb dL_exceptionDoor_3 rfl (lv_at hl 1 rfl) ?_
  refine xr_V (own := RL) (v := (some (.int ((f_X9_exceptionDoor q v x).2)))) (st1 := [.int ((f_X9_exceptionDoor q v x).2), .int (0 : Int32), .ref owh]) (As := [.int x]) (rest := [.int (0 : Int32), .ref owh]) (c_X9_exceptionDoorS l hlf G qh0 q_snapshot q_history q_program q_notice va q v x) ⟨hx, hb, hml, hown, hts⟩ g_L_54 hdv_X9_exceptionDoor hK hST hS hP [0, 1, 2, 3, 4, 5, 6, 7, 8, 9, 10, 11, 12, 13, 14, 15, 16, 17, 18, 19, 20] rfl (k0 := 0) rfl rfl rfl ⟨Nat.le_of_ble_eq_true rfl, Nat.le_of_ble_eq_true rfl⟩ ⟨Nat.le_of_ble_eq_true rfl, Nat.le_of_ble_eq_true rfl⟩ rfl hl.1 rfl (Nat.le_of_ble_eq_true rfl) dL_exceptionDoor_4 rfl (fun E ce q9 H hE h1 h2 h3 h4 h5 => ?_) (fun b_1 => ?_)
  · have hF := hF.trans (if_neg (fun e => hE.2 (hE.1.trans e)))
    have hok := Eq.mp (if_neg (fun e => hE.2 (hE.1.trans e))) hok
    have hP := hP.kept (fun k q hk => h2 q.1 ((hP k q hk).lt))
    have hS : va_S A s.heap H _ := ⟨Nat.le_trans hS.1 h1, fun q hq hA => (h2 q (Nat.lt_of_lt_of_le hq hS.1)).trans (hS.2.1 q hq hA), hS.2.2⟩
    by_cases c_2 : (f_X9_exceptionDoor q v x).1 = "java/util/NoSuchElementException"
    · have hF := hF.trans (if_pos c_2)
      have hok := Eq.mp (if_pos c_2) hok
      have hEE : E = "java/util/NoSuchElementException" := hE.1.trans c_2
      subst hEE
      refine vx_catch (own := RL) (name := "java/util/NoSuchElementException") hown [] (⟨0, 9, 12, 33⟩ : ExceptionTableEntry) [] (hxt.trans rfl) (fun z hz => nomatch hz) (by decide) (by decide) (hts _ u_689) (va_tabs rfl rfl (hST.2.2.2.2.2.2.2.1 _ cst_NoSuchElementException)) h3 h4 h5 ?_
      refine W.eq (g2 := F0 m 12 ls [.ref q9]) rfl ?_
      refine lv_astore_n (lv' := [(3, .ref q9), (0, .ref qh0), (1, .int x), (2, .ref owh)]) hx hb dL_exceptionDoor_12 rfl hl (by decide) rfl (fun ls hl => ?_)
      refine lv_iconst (v := (1 : Int32)) hx hb dL_exceptionDoor_13 (by decide) ?_
      exact w_ret (u := ((1 : Int32), ow)) hx hb hr hlk rfl hS rfl hF.symm hP hD (Nat.le_of_ble_eq_true rfl) (Nat.le_of_ble_eq_true rfl) dL_exceptionDoor_14
    · have hF := hF.trans (if_neg c_2)
      have hok := Eq.mp (if_neg c_2) hok
      exact hok.elim
  · have hE := b_1.1
    have b_1 := b_1.2
    have hF := hF.trans (if_pos hE)
    have hok := Eq.mp (if_pos hE) hok
    refine lv_i2l hx hb dL_exceptionDoor_7 rfl ?_
    refine va_last hx hb hK hP hD hS 21 3 rfl rfl (vp_in_nI (n := 0) (by decide) (by decide)) dL_exceptionDoor_8 (fun H locs hP hD hS => ?_)
    have hP : va_P G.1 vwCl (fl [[(qh0, .inr (11, [.ref (va 0), .ref q_snapshot, .int q.1, .ref q_history, .ref q_program, .ref q_notice, .int q.2.1, .int q.2.2]))], wSt G va v, [(owh, .inl (G.2.1 3, 1, .inr (.inl (vp_updL ow (0 : Int32).toNatClampNeg (((f_X9_exceptionDoor q v x).2).toInt64)))))]]) H := hP
    have hD : va_D A (fl [[(qh0, .inr (11, [.ref (va 0), .ref q_snapshot, .int q.1, .ref q_history, .ref q_program, .ref q_notice, .int q.2.1, .int q.2.2]))], wSt G va v, [(owh, .inl (G.2.1 3, 1, .inr (.inl (vp_updL ow (0 : Int32).toNatClampNeg (((f_X9_exceptionDoor q v x).2).toInt64)))))]]) := hD
    refine lv_goto (tgt := 15) hx hb dL_exceptionDoor_9 (by decide) ?_
    refine lv_iconst (v := (0 : Int32)) hx hb dL_exceptionDoor_15 (by decide) ?_
    exact w_ret (u := ((0 : Int32), (vp_updL ow (0 : Int32).toNatClampNeg (((f_X9_exceptionDoor q v x).2).toInt64)))) hx hb hr hlk rfl hS rfl hF.symm hP hD (Nat.le_of_ble_eq_true rfl) (Nat.le_of_ble_eq_true rfl) dL_exceptionDoor_16
theorem dL_exceptionDay_0 : decode cL_exceptionDay 0 = .ok (.aload_n 2, 1) := by decide +kernel
theorem dL_exceptionDay_1 : decode cL_exceptionDay 1 = .ok (.iconst 0, 1) := by decide +kernel
theorem dL_exceptionDay_2 : decode cL_exceptionDay 2 = .ok (.aload_n 0, 1) := by decide +kernel
theorem dL_exceptionDay_3 : decode cL_exceptionDay 3 = .ok (.iload_n 1, 1) := by decide +kernel
theorem dL_exceptionDay_4 : decode cL_exceptionDay 4 = .ok (.invokevirtual 57, 3) := by decide +kernel
theorem u_797 : Cond.methodLink RL 57 yX9_exceptionDay ∈ UW := uw 797 (by decide +kernel) rfl
theorem u_798 : Cond.instanceMethod yX9_exceptionDay ∈ UW := uw 798 (by decide +kernel) rfl
theorem u_799 : Cond.selects RX9 yX9_exceptionDay yX9_exceptionDay ∈ UW := uw 799 (by decide +kernel) rfl
theorem u_800 : Cond.code yX9_exceptionDay cX9_exceptionDay 2 (some .int) ∈ UW := uw 800 (by decide +kernel) rfl
theorem g_L_57 : GoodIn UW (wsV RL 57 RX9 yX9_exceptionDay (wsU yX9_exceptionDay cX9_exceptionDay 2 (some .int))) := gV u_797 u_798 u_799 u_65 u_800
theorem hdv_X9_exceptionDay : yX9_exceptionDay.cls = RX9 ∧ yX9_exceptionDay.cls ≠ "java/lang/invoke/MethodHandle" ∧ yX9_exceptionDay.cls ≠ "java/lang/invoke/VarHandle" ∧ (parseMethodDescriptor yX9_exceptionDay.desc).map (fun d => d.parameters.length) = some 1 := by decide +kernel
theorem dL_exceptionDay_12 : decode cL_exceptionDay 12 = .ok (.astore_n 3, 1) := by decide +kernel
theorem dL_exceptionDay_13 : decode cL_exceptionDay 13 = .ok (.iconst 1, 1) := by decide +kernel
theorem dL_exceptionDay_14 : decode cL_exceptionDay 14 = .ok (.ireturn, 1) := by decide +kernel
theorem dL_exceptionDay_7 : decode cL_exceptionDay 7 = .ok (.i2l, 1) := by decide +kernel
theorem dL_exceptionDay_8 : decode cL_exceptionDay 8 = .ok (.lastore, 1) := by decide +kernel
theorem dL_exceptionDay_9 : decode cL_exceptionDay 9 = .ok (.goto 6, 3) := by decide +kernel
theorem dL_exceptionDay_15 : decode cL_exceptionDay 15 = .ok (.iconst 0, 1) := by decide +kernel
theorem dL_exceptionDay_16 : decode cL_exceptionDay 16 = .ok (.ireturn, 1) := by decide +kernel
def f_L_exceptionDay (q : McV) (v : StV) (x : Int32) (ow : Nat → Int64) : Int32 × (Nat → Int64) := (if (f_X9_exceptionDay q v x).1 = "" then ((0 : Int32), (vp_updL ow (0 : Int32).toNatClampNeg (((f_X9_exceptionDay q v x).2).toInt64))) else (if (f_X9_exceptionDay q v x).1 = "java/util/NoSuchElementException" then ((1 : Int32), ow) else (0, ow)))
def ok_L_exceptionDay (q : McV) (v : StV) (x : Int32) (ow : Nat → Int64) : Prop := (if (f_X9_exceptionDay q v x).1 = "" then True else (if (f_X9_exceptionDay q v x).1 = "java/util/NoSuchElementException" then True else False))
set_option maxHeartbeats 8000000 in
set_option maxRecDepth 100000 in
set_option linter.constructorNameAsVariable false in
theorem c_L_exceptionDay (l : Launch) (hlf : l.stackTraces = false) (G : GG) (qh0 : Nat) (q_snapshot : Nat) (q_history : Nat) (q_program : Nat) (q_notice : Nat) (va : Nat → Nat) (owh : Nat) (sz : Nat) (q : McV) (v : StV) (x : Int32) (ow : Nat → Int64) (hok : ok_L_exceptionDay q v x ow) : wMetH l yL_exceptionDay cL_exceptionDay 4 (some .int) [(0, 9, 12, 33)] 10 1 6 G (fl [[(qh0, .inr (11, [.ref (va 0), .ref q_snapshot, .int q.1, .ref q_history, .ref q_program, .ref q_notice, .int q.2.1, .int q.2.2]))], wSt G va v, [(owh, .inl (G.2.1 3, 1, .inr (.inl ow)))]]) [.ref qh0, .int x, .ref owh] sz (fun u : Int32 × (Nat → Int64) => some (.int u.1)) (fun u : Int32 × (Nat → Int64) => u = f_L_exceptionDay q v x ow) (fun u : Int32 × (Nat → Int64) => fl [[(qh0, .inr (11, [.ref (va 0), .ref q_snapshot, .int q.1, .ref q_history, .ref q_program, .ref q_notice, .int q.2.1, .int q.2.2]))], wSt G va v, [(owh, .inl (G.2.1 3, 1, .inr (.inl u.2)))]]) := by
  refine w_startH (by decide +kernel) (Nat.le_of_ble_eq_true rfl) ?_
  intro p e s m below meth c A hx hb hr hml hts hown hlk hin hxt hP hD hA hK hST ls hl
  have hS : va_S A s.heap s.heap [] := va_S.rf
  have hown : s.vm.findClass RL = some m.cls := hown
  have hl : lv_has ls 4 [(0, .ref qh0), (1, .int x), (2, .ref owh)] := hl
  have hF : f_L_exceptionDay q v x ow = (if (f_X9_exceptionDay q v x).1 = "" then ((0 : Int32), (vp_updL ow (0 : Int32).toNatClampNeg (((f_X9_exceptionDay q v x).2).toInt64))) else (if (f_X9_exceptionDay q v x).1 = "java/util/NoSuchElementException" then ((1 : Int32), ow) else (0, ow))) := rfl
  have hok : (if (f_X9_exceptionDay q v x).1 = "" then True else (if (f_X9_exceptionDay q v x).1 = "java/util/NoSuchElementException" then True else False)) := hok
  refine lv_aload_n hx hb dL_exceptionDay_0 rfl (lv_at hl 2 rfl) ?_
  refine lv_iconst (v := (0 : Int32)) hx hb dL_exceptionDay_1 (by decide) ?_
  refine lv_aload_n hx hb dL_exceptionDay_2 rfl (lv_at hl 0 rfl) ?_
  refine lv_iload_n hx hb dL_exceptionDay_3 rfl (lv_at hl 1 rfl) ?_
  refine xr_V (own := RL) (v := (some (.int ((f_X9_exceptionDay q v x).2)))) (st1 := [.int ((f_X9_exceptionDay q v x).2), .int (0 : Int32), .ref owh]) (As := [.int x]) (rest := [.int (0 : Int32), .ref owh]) (c_X9_exceptionDayS l hlf G qh0 q_snapshot q_history q_program q_notice va q v x) ⟨hx, hb, hml, hown, hts⟩ g_L_57 hdv_X9_exceptionDay hK hST hS hP [0, 1, 2, 3, 4, 5, 6, 7, 8, 9, 10, 11, 12, 13, 14, 15, 16, 17, 18, 19, 20] rfl (k0 := 0) rfl rfl rfl ⟨Nat.le_of_ble_eq_true rfl, Nat.le_of_ble_eq_true rfl⟩ ⟨Nat.le_of_ble_eq_true rfl, Nat.le_of_ble_eq_true rfl⟩ rfl hl.1 rfl (Nat.le_of_ble_eq_true rfl) dL_exceptionDay_4 rfl (fun E ce q9 H hE h1 h2 h3 h4 h5 => ?_) (fun b_1 => ?_)
  · have hF := hF.trans (if_neg (fun e => hE.2 (hE.1.trans e)))
    have hok := Eq.mp (if_neg (fun e => hE.2 (hE.1.trans e))) hok
    have hP := hP.kept (fun k q hk => h2 q.1 ((hP k q hk).lt))
    have hS : va_S A s.heap H _ := ⟨Nat.le_trans hS.1 h1, fun q hq hA => (h2 q (Nat.lt_of_lt_of_le hq hS.1)).trans (hS.2.1 q hq hA), hS.2.2⟩
    by_cases c_2 : (f_X9_exceptionDay q v x).1 = "java/util/NoSuchElementException"
    · have hF := hF.trans (if_pos c_2)
      have hok := Eq.mp (if_pos c_2) hok
      have hEE : E = "java/util/NoSuchElementException" := hE.1.trans c_2
      subst hEE
      refine vx_catch (own := RL) (name := "java/util/NoSuchElementException") hown [] (⟨0, 9, 12, 33⟩ : ExceptionTableEntry) [] (hxt.trans rfl) (fun z hz => nomatch hz) (by decide) (by decide) (hts _ u_689) (va_tabs rfl rfl (hST.2.2.2.2.2.2.2.1 _ cst_NoSuchElementException)) h3 h4 h5 ?_
      refine W.eq (g2 := F0 m 12 ls [.ref q9]) rfl ?_
      refine lv_astore_n (lv' := [(3, .ref q9), (0, .ref qh0), (1, .int x), (2, .ref owh)]) hx hb dL_exceptionDay_12 rfl hl (by decide) rfl (fun ls hl => ?_)
      refine lv_iconst (v := (1 : Int32)) hx hb dL_exceptionDay_13 (by decide) ?_
      exact w_ret (u := ((1 : Int32), ow)) hx hb hr hlk rfl hS rfl hF.symm hP hD (Nat.le_of_ble_eq_true rfl) (Nat.le_of_ble_eq_true rfl) dL_exceptionDay_14
    · have hF := hF.trans (if_neg c_2)
      have hok := Eq.mp (if_neg c_2) hok
      exact hok.elim
  · have hE := b_1.1
    have b_1 := b_1.2
    have hF := hF.trans (if_pos hE)
    have hok := Eq.mp (if_pos hE) hok
    refine lv_i2l hx hb dL_exceptionDay_7 rfl ?_
    refine va_last hx hb hK hP hD hS 21 3 rfl rfl (vp_in_nI (n := 0) (by decide) (by decide)) dL_exceptionDay_8 (fun H locs hP hD hS => ?_)
    have hP : va_P G.1 vwCl (fl [[(qh0, .inr (11, [.ref (va 0), .ref q_snapshot, .int q.1, .ref q_history, .ref q_program, .ref q_notice, .int q.2.1, .int q.2.2]))], wSt G va v, [(owh, .inl (G.2.1 3, 1, .inr (.inl (vp_updL ow (0 : Int32).toNatClampNeg (((f_X9_exceptionDay q v x).2).toInt64)))))]]) H := hP
    have hD : va_D A (fl [[(qh0, .inr (11, [.ref (va 0), .ref q_snapshot, .int q.1, .ref q_history, .ref q_program, .ref q_notice, .int q.2.1, .int q.2.2]))], wSt G va v, [(owh, .inl (G.2.1 3, 1, .inr (.inl (vp_updL ow (0 : Int32).toNatClampNeg (((f_X9_exceptionDay q v x).2).toInt64)))))]]) := hD
    refine lv_goto (tgt := 15) hx hb dL_exceptionDay_9 (by decide) ?_
    refine lv_iconst (v := (0 : Int32)) hx hb dL_exceptionDay_15 (by decide) ?_
    exact w_ret (u := ((0 : Int32), (vp_updL ow (0 : Int32).toNatClampNeg (((f_X9_exceptionDay q v x).2).toInt64)))) hx hb hr hlk rfl hS rfl hF.symm hP hD (Nat.le_of_ble_eq_true rfl) (Nat.le_of_ble_eq_true rfl) dL_exceptionDay_16
theorem dL_addPerson_0 : decode cL_addPerson 0 = .ok (.aload_n 1, 1) := by decide +kernel
theorem dL_addPerson_1 : decode cL_addPerson 1 = .ok (.iconst 0, 1) := by decide +kernel
theorem dL_addPerson_2 : decode cL_addPerson 2 = .ok (.aload_n 0, 1) := by decide +kernel
theorem dL_addPerson_3 : decode cL_addPerson 3 = .ok (.invokevirtual 60, 3) := by decide +kernel
theorem u_808 : Cond.methodLink RL 60 yX9_addPerson ∈ UW := uw 808 (by decide +kernel) rfl
theorem u_809 : Cond.instanceMethod yX9_addPerson ∈ UW := uw 809 (by decide +kernel) rfl
theorem u_810 : Cond.selects RX9 yX9_addPerson yX9_addPerson ∈ UW := uw 810 (by decide +kernel) rfl
theorem u_811 : Cond.code yX9_addPerson cX9_addPerson 1 (some .int) ∈ UW := uw 811 (by decide +kernel) rfl
theorem g_L_60 : GoodIn UW (wsV RL 60 RX9 yX9_addPerson (wsU yX9_addPerson cX9_addPerson 1 (some .int))) := gV u_808 u_809 u_810 u_65 u_811
theorem hdv_X9_addPerson : yX9_addPerson.cls = RX9 ∧ yX9_addPerson.cls ≠ "java/lang/invoke/MethodHandle" ∧ yX9_addPerson.cls ≠ "java/lang/invoke/VarHandle" ∧ (parseMethodDescriptor yX9_addPerson.desc).map (fun d => d.parameters.length) = some 0 := by decide +kernel
theorem dL_addPerson_6 : decode cL_addPerson 6 = .ok (.i2l, 1) := by decide +kernel
theorem dL_addPerson_7 : decode cL_addPerson 7 = .ok (.lastore, 1) := by decide +kernel
theorem dL_addPerson_8 : decode cL_addPerson 8 = .ok (.goto 6, 3) := by decide +kernel
theorem dL_addPerson_14 : decode cL_addPerson 14 = .ok (.iconst 0, 1) := by decide +kernel
theorem dL_addPerson_15 : decode cL_addPerson 15 = .ok (.ireturn, 1) := by decide +kernel
theorem dL_addPerson_11 : decode cL_addPerson 11 = .ok (.astore_n 2, 1) := by decide +kernel
theorem dL_addPerson_12 : decode cL_addPerson 12 = .ok (.iconst 1, 1) := by decide +kernel
theorem dL_addPerson_13 : decode cL_addPerson 13 = .ok (.ireturn, 1) := by decide +kernel
def f_L_addPerson (q : McV) (v : StV) (hi : HiV) (hs : Nat → StV) (ow : Nat → Int64) : Int32 × StV × HiV × (Nat → StV) × (Nat → Int64) := (let u_3 : String × Int32 × StV × HiV × (Nat → StV) := (f_X9_addPerson q v hi hs); (if u_3.1 = "" then ((0 : Int32), u_3.2.2.1, u_3.2.2.2.1, u_3.2.2.2.2, (vp_updL ow (0 : Int32).toNatClampNeg u_3.2.1.toInt64)) else (if (f_X9_addPerson q v hi hs).1 = "java/lang/IllegalStateException" then ((1 : Int32), v, hi, hs, ow) else (0, v, hi, hs, ow))))
def ok_L_addPerson (q : McV) (v : StV) (hi : HiV) (hs : Nat → StV) (ow : Nat → Int64) : Prop := (nx9 hi.2 ∧ (let u_3 : String × Int32 × StV × HiV × (Nat → StV) := (f_X9_addPerson q v hi hs); (if u_3.1 = "" then True else (if (f_X9_addPerson q v hi hs).1 = "java/lang/IllegalStateException" then True else False))))
set_option maxHeartbeats 8000000 in
set_option maxRecDepth 100000 in
set_option linter.constructorNameAsVariable false in
theorem c_L_addPerson (l : Launch) (hlf : l.stackTraces = false) (G : GG) (qh0 : Nat) (q_snapshot : Nat) (q_program : Nat) (q_notice : Nat) (va : Nat → Nat) (hih0 : Nat) (hsh : Nat) (hsa : Nat → Nat → Nat) (owh : Nat) (sz : Nat) (q : McV) (v : StV) (hi : HiV) (hs : Nat → StV) (ow : Nat → Int64) (hok : ok_L_addPerson q v hi hs ow) : wMetH l yL_addPerson cL_addPerson 3 (some .int) [(0, 8, 11, 15)] 9 1 6 G (fl [[(qh0, .inr (11, [.ref (va 0), .ref q_snapshot, .int q.1, .ref hih0, .ref q_program, .ref q_notice, .int q.2.1, .int q.2.2]))], wSt G va v, [(hih0, .inr (7, [.int hi.1, .int hi.2, .ref hsh]))], wHs G hsh hsa hs, [(owh, .inl (G.2.1 3, 1, .inr (.inl ow)))]]) [.ref qh0, .ref owh] sz (fun u : Int32 × StV × HiV × (Nat → StV) × (Nat → Int64) => some (.int u.1)) (fun u : Int32 × StV × HiV × (Nat → StV) × (Nat → Int64) => u = f_L_addPerson q v hi hs ow) (fun u : Int32 × StV × HiV × (Nat → StV) × (Nat → Int64) => fl [[(qh0, .inr (11, [.ref (va 0), .ref q_snapshot, .int q.1, .ref hih0, .ref q_program, .ref q_notice, .int q.2.1, .int q.2.2]))], wSt G va u.2.1, [(hih0, .inr (7, [.int u.2.2.1.1, .int u.2.2.1.2, .ref hsh]))], wHs G hsh hsa u.2.2.2.1, [(owh, .inl (G.2.1 3, 1, .inr (.inl u.2.2.2.2)))]]) := by
  refine w_startH (by decide +kernel) (Nat.le_of_ble_eq_true rfl) ?_
  intro p e s m below meth c A hx hb hr hml hts hown hlk hin hxt hP hD hA hK hST ls hl
  have hS : va_S A s.heap s.heap [] := va_S.rf
  have hown : s.vm.findClass RL = some m.cls := hown
  have hl : lv_has ls 3 [(0, .ref qh0), (1, .ref owh)] := hl
  have hF : f_L_addPerson q v hi hs ow = (let u_3 : String × Int32 × StV × HiV × (Nat → StV) := (f_X9_addPerson q v hi hs); (if u_3.1 = "" then ((0 : Int32), u_3.2.2.1, u_3.2.2.2.1, u_3.2.2.2.2, (vp_updL ow (0 : Int32).toNatClampNeg u_3.2.1.toInt64)) else (if (f_X9_addPerson q v hi hs).1 = "java/lang/IllegalStateException" then ((1 : Int32), v, hi, hs, ow) else (0, v, hi, hs, ow)))) := rfl
  have hok : (nx9 hi.2 ∧ (let u_3 : String × Int32 × StV × HiV × (Nat → StV) := (f_X9_addPerson q v hi hs); (if u_3.1 = "" then True else (if (f_X9_addPerson q v hi hs).1 = "java/lang/IllegalStateException" then True else False)))) := hok
  refine lv_aload_n hx hb dL_addPerson_0 rfl (lv_at hl 1 rfl) ?_
  refine lv_iconst (v := (0 : Int32)) hx hb dL_addPerson_1 (by decide) ?_
  refine lv_aload_n hx hb dL_addPerson_2 rfl (lv_at hl 0 rfl) ?_
  have k_1 := hok.1
  have hok := hok.2
  refine xw_V (own := RL) (cs := [[(qh0, .inr (11, [.ref (va 0), .ref q_snapshot, .int q.1, .ref hih0, .ref q_program, .ref q_notice, .int q.2.1, .int q.2.2]))], wSt G va v, [(hih0, .inr (7, [.int hi.1, .int hi.2, .ref hsh]))], wHs G hsh hsa hs]) (rs := [[(owh, .inl (G.2.1 3, 1, .inr (.inl ow)))]]) (As := []) (rest := [.int (0 : Int32), .ref owh]) (c_X9_addPersonS l hlf G qh0 q_snapshot q_program q_notice va hih0 hsh hsa s.heap.size q v hi hs k_1) ⟨hx, hb, hml, hown, hts⟩ g_L_60 hdv_X9_addPerson hK hST hS hP hD hA [0, 1, 2, 3] [4] rfl rfl rfl (k0 := 0) rfl rfl rfl ⟨Nat.le_of_ble_eq_true rfl, Nat.le_of_ble_eq_true rfl⟩ ⟨Nat.le_of_ble_eq_true rfl, Nat.le_of_ble_eq_true rfl⟩ rfl hl.1 rfl (Nat.le_of_ble_eq_true rfl) dL_addPerson_3 (fun E ce q9 H locs hE hP hS h3 h4 h5 => ?_) (fun u_3 H locs huu hP hD hS => ?_)
  rotate_left
  obtain ⟨huu, b_2⟩ := huu
  rw [← huu] at b_2
  have eu_3 := huu
  have hP : va_P G.1 vwCl (fl [[(qh0, .inr (11, [.ref (va 0), .ref q_snapshot, .int q.1, .ref hih0, .ref q_program, .ref q_notice, .int q.2.1, .int q.2.2]))], wSt G va u_3.2.2.1, [(hih0, .inr (7, [.int u_3.2.2.2.1.1, .int u_3.2.2.2.1.2, .ref hsh]))], wHs G hsh hsa u_3.2.2.2.2, [(owh, .inl (G.2.1 3, 1, .inr (.inl ow)))]]) H := hP
  have hD : va_D A (fl [[(qh0, .inr (11, [.ref (va 0), .ref q_snapshot, .int q.1, .ref hih0, .ref q_program, .ref q_notice, .int q.2.1, .int q.2.2]))], wSt G va u_3.2.2.1, [(hih0, .inr (7, [.int u_3.2.2.2.1.1, .int u_3.2.2.2.1.2, .ref hsh]))], wHs G hsh hsa u_3.2.2.2.2, [(owh, .inl (G.2.1 3, 1, .inr (.inl ow)))]]) := hD
  refine W.eq (g2 := F0 m 6 ls [.int u_3.2.1, .int (0 : Int32), .ref owh]) rfl ?_
  have hE := b_2.1
  have hF : f_L_addPerson q v hi hs ow = (if u_3.1 = "" then ((0 : Int32), u_3.2.2.1, u_3.2.2.2.1, u_3.2.2.2.2, (vp_updL ow (0 : Int32).toNatClampNeg u_3.2.1.toInt64)) else (if (f_X9_addPerson q v hi hs).1 = "java/lang/IllegalStateException" then ((1 : Int32), v, hi, hs, ow) else (0, v, hi, hs, ow))) := by subst eu_3; exact hF
  have hF := hF.trans (if_pos hE)
  have hok : (if u_3.1 = "" then True else (if (f_X9_addPerson q v hi hs).1 = "java/lang/IllegalStateException" then True else False)) := by subst eu_3; exact hok
  have hok := Eq.mp (if_pos hE) hok
  refine lv_i2l hx hb dL_addPerson_6 rfl ?_
  refine va_last hx hb hK hP hD hS 203 3 rfl rfl (vp_in_nI (n := 0) (by decide) (by decide)) dL_addPerson_7 (fun H locs hP hD hS => ?_)
  have hP : va_P G.1 vwCl (fl [[(qh0, .inr (11, [.ref (va 0), .ref q_snapshot, .int q.1, .ref hih0, .ref q_program, .ref q_notice, .int q.2.1, .int q.2.2]))], wSt G va u_3.2.2.1, [(hih0, .inr (7, [.int u_3.2.2.2.1.1, .int u_3.2.2.2.1.2, .ref hsh]))], wHs G hsh hsa u_3.2.2.2.2, [(owh, .inl (G.2.1 3, 1, .inr (.inl (vp_updL ow (0 : Int32).toNatClampNeg u_3.2.1.toInt64))))]]) H := hP
  have hD : va_D A (fl [[(qh0, .inr (11, [.ref (va 0), .ref q_snapshot, .int q.1, .ref hih0, .ref q_program, .ref q_notice, .int q.2.1, .int q.2.2]))], wSt G va u_3.2.2.1, [(hih0, .inr (7, [.int u_3.2.2.2.1.1, .int u_3.2.2.2.1.2, .ref hsh]))], wHs G hsh hsa u_3.2.2.2.2, [(owh, .inl (G.2.1 3, 1, .inr (.inl (vp_updL ow (0 : Int32).toNatClampNeg u_3.2.1.toInt64))))]]) := hD
  refine lv_goto (tgt := 14) hx hb dL_addPerson_8 (by decide) ?_
  refine lv_iconst (v := (0 : Int32)) hx hb dL_addPerson_14 (by decide) ?_
  exact w_ret (u := ((0 : Int32), u_3.2.2.1, u_3.2.2.2.1, u_3.2.2.2.2, (vp_updL ow (0 : Int32).toNatClampNeg u_3.2.1.toInt64))) hx hb hr hlk rfl hS rfl hF.symm hP hD (Nat.le_of_ble_eq_true rfl) (Nat.le_of_ble_eq_true rfl) dL_addPerson_15
  have hF := hF.trans (if_neg (fun e => hE.2 (hE.1.trans e)))
  have hok := Eq.mp (if_neg (fun e => hE.2 (hE.1.trans e))) hok
  by_cases c_4 : (f_X9_addPerson q v hi hs).1 = "java/lang/IllegalStateException"
  · have hF := hF.trans (if_pos c_4)
    have hok := Eq.mp (if_pos c_4) hok
    have hEE : E = "java/lang/IllegalStateException" := hE.1.trans c_4
    subst hEE
    refine vx_catch (own := RL) (name := "java/lang/IllegalStateException") hown [] (⟨0, 8, 11, 15⟩ : ExceptionTableEntry) [] (hxt.trans rfl) (fun z hz => nomatch hz) (by decide) (by decide) (hts _ u_404) (va_tabs rfl rfl (hST.2.2.2.2.2.2.2.1 _ cst_IllegalStateException)) h3 h4 h5 ?_
    refine W.eq (g2 := F0 m 11 ls [.ref q9]) rfl ?_
    refine lv_astore_n (lv' := [(2, .ref q9), (0, .ref qh0), (1, .ref owh)]) hx hb dL_addPerson_11 rfl hl (by decide) rfl (fun ls hl => ?_)
    refine lv_iconst (v := (1 : Int32)) hx hb dL_addPerson_12 (by decide) ?_
    exact w_ret (u := ((1 : Int32), v, hi, hs, ow)) hx hb hr hlk rfl hS rfl hF.symm hP hD (Nat.le_of_ble_eq_true rfl) (Nat.le_of_ble_eq_true rfl) dL_addPerson_13
  · have hF := hF.trans (if_neg c_4)
    have hok := Eq.mp (if_neg c_4) hok
    exact hok.elim
theorem dL_giveKey_0 : decode cL_giveKey 0 = .ok (.aload_n 3, 1) := by decide +kernel
theorem dL_giveKey_1 : decode cL_giveKey 1 = .ok (.iconst 0, 1) := by decide +kernel
theorem dL_giveKey_2 : decode cL_giveKey 2 = .ok (.aload_n 0, 1) := by decide +kernel
theorem dL_giveKey_3 : decode cL_giveKey 3 = .ok (.iload_n 1, 1) := by decide +kernel
theorem dL_giveKey_4 : decode cL_giveKey 4 = .ok (.iload_n 2, 1) := by decide +kernel
theorem dL_giveKey_5 : decode cL_giveKey 5 = .ok (.invokevirtual 64, 3) := by decide +kernel
theorem u_820 : Cond.methodLink RL 64 yX9_giveKey ∈ UW := uw 820 (by decide +kernel) rfl
theorem u_821 : Cond.instanceMethod yX9_giveKey ∈ UW := uw 821 (by decide +kernel) rfl
theorem u_822 : Cond.selects RX9 yX9_giveKey yX9_giveKey ∈ UW := uw 822 (by decide +kernel) rfl
theorem u_823 : Cond.code yX9_giveKey cX9_giveKey 3 (some .int) ∈ UW := uw 823 (by decide +kernel) rfl
theorem g_L_64 : GoodIn UW (wsV RL 64 RX9 yX9_giveKey (wsU yX9_giveKey cX9_giveKey 3 (some .int))) := gV u_820 u_821 u_822 u_65 u_823
theorem hdv_X9_giveKey : yX9_giveKey.cls = RX9 ∧ yX9_giveKey.cls ≠ "java/lang/invoke/MethodHandle" ∧ yX9_giveKey.cls ≠ "java/lang/invoke/VarHandle" ∧ (parseMethodDescriptor yX9_giveKey.desc).map (fun d => d.parameters.length) = some 2 := by decide +kernel
theorem dL_giveKey_8 : decode cL_giveKey 8 = .ok (.i2l, 1) := by decide +kernel
theorem dL_giveKey_9 : decode cL_giveKey 9 = .ok (.lastore, 1) := by decide +kernel
theorem dL_giveKey_10 : decode cL_giveKey 10 = .ok (.goto 15, 3) := by decide +kernel
theorem dL_giveKey_25 : decode cL_giveKey 25 = .ok (.iconst 0, 1) := by decide +kernel
theorem dL_giveKey_26 : decode cL_giveKey 26 = .ok (.ireturn, 1) := by decide +kernel
theorem dL_giveKey_13 : decode cL_giveKey 13 = .ok (.astore 4, 2) := by decide +kernel
theorem dL_giveKey_15 : decode cL_giveKey 15 = .ok (.iconst 1, 1) := by decide +kernel
theorem dL_giveKey_16 : decode cL_giveKey 16 = .ok (.ireturn, 1) := by decide +kernel
theorem dL_giveKey_17 : decode cL_giveKey 17 = .ok (.astore 4, 2) := by decide +kernel
theorem dL_giveKey_19 : decode cL_giveKey 19 = .ok (.iconst 2, 1) := by decide +kernel
theorem dL_giveKey_20 : decode cL_giveKey 20 = .ok (.ireturn, 1) := by decide +kernel
theorem dL_giveKey_21 : decode cL_giveKey 21 = .ok (.astore 4, 2) := by decide +kernel
theorem dL_giveKey_23 : decode cL_giveKey 23 = .ok (.iconst 3, 1) := by decide +kernel
theorem dL_giveKey_24 : decode cL_giveKey 24 = .ok (.ireturn, 1) := by decide +kernel
def f_L_giveKey (q : McV) (v : StV) (hi : HiV) (hs : Nat → StV) (ps : Int32) (ke : Int32) (ow : Nat → Int64) : Int32 × StV × HiV × (Nat → StV) × (Nat → Int64) := (let u_3 : String × Int32 × StV × HiV × (Nat → StV) := (f_X9_giveKey q v hi hs ps ke); (if u_3.1 = "" then ((0 : Int32), u_3.2.2.1, u_3.2.2.2.1, u_3.2.2.2.2, (vp_updL ow (0 : Int32).toNatClampNeg u_3.2.1.toInt64)) else (if (f_X9_giveKey q v hi hs ps ke).1 = "java/lang/IndexOutOfBoundsException" then ((1 : Int32), v, hi, hs, ow) else (if (f_X9_giveKey q v hi hs ps ke).1 = "java/lang/IllegalArgumentException" then ((2 : Int32), v, hi, hs, ow) else (if (f_X9_giveKey q v hi hs ps ke).1 = "java/lang/IllegalStateException" then ((3 : Int32), v, hi, hs, ow) else (0, v, hi, hs, ow))))))
def ok_L_giveKey (q : McV) (v : StV) (hi : HiV) (hs : Nat → StV) (ps : Int32) (ke : Int32) (ow : Nat → Int64) : Prop := (nx9 hi.2 ∧ (let u_3 : String × Int32 × StV × HiV × (Nat → StV) := (f_X9_giveKey q v hi hs ps ke); (if u_3.1 = "" then True else (if (f_X9_giveKey q v hi hs ps ke).1 = "java/lang/IndexOutOfBoundsException" then True else (if (f_X9_giveKey q v hi hs ps ke).1 = "java/lang/IllegalArgumentException" then True else (if (f_X9_giveKey q v hi hs ps ke).1 = "java/lang/IllegalStateException" then True else False))))))
set_option maxHeartbeats 8000000 in
set_option maxRecDepth 100000 in
set_option linter.constructorNameAsVariable false in
theorem c_L_giveKey (l : Launch) (hlf : l.stackTraces = false) (G : GG) (qh0 : Nat) (q_snapshot : Nat) (q_program : Nat) (q_notice : Nat) (va : Nat → Nat) (hih0 : Nat) (hsh : Nat) (hsa : Nat → Nat → Nat) (owh : Nat) (sz : Nat) (q : McV) (v : StV) (hi : HiV) (hs : Nat → StV) (ps : Int32) (ke : Int32) (ow : Nat → Int64) (hok : ok_L_giveKey q v hi hs ps ke ow) : wMetH l yL_giveKey cL_giveKey 5 (some .int) [(0, 10, 13, 21), (0, 10, 17, 13), (0, 10, 21, 15)] 10 1 6 G (fl [[(qh0, .inr (11, [.ref (va 0), .ref q_snapshot, .int q.1, .ref hih0, .ref q_program, .ref q_notice, .int q.2.1, .int q.2.2]))], wSt G va v, [(hih0, .inr (7, [.int hi.1, .int hi.2, .ref hsh]))], wHs G hsh hsa hs, [(owh, .inl (G.2.1 3, 1, .inr (.inl ow)))]]) [.ref qh0, .int ps, .int ke, .ref owh] sz (fun u : Int32 × StV × HiV × (Nat → StV) × (Nat → Int64) => some (.int u.1)) (fun u : Int32 × StV × HiV × (Nat → StV) × (Nat → Int64) => u = f_L_giveKey q v hi hs ps ke ow) (fun u : Int32 × StV × HiV × (Nat → StV) × (Nat → Int64) => fl [[(qh0, .inr (11, [.ref (va 0), .ref q_snapshot, .int q.1, .ref hih0, .ref q_program, .ref q_notice, .int q.2.1, .int q.2.2]))], wSt G va u.2.1, [(hih0, .inr (7, [.int u.2.2.1.1, .int u.2.2.1.2, .ref hsh]))], wHs G hsh hsa u.2.2.2.1, [(owh, .inl (G.2.1 3, 1, .inr (.inl u.2.2.2.2)))]]) := by
  refine w_startH (by decide +kernel) (Nat.le_of_ble_eq_true rfl) ?_
  intro p e s m below meth c A hx hb hr hml hts hown hlk hin hxt hP hD hA hK hST ls hl
  have hS : va_S A s.heap s.heap [] := va_S.rf
  have hown : s.vm.findClass RL = some m.cls := hown
  have hl : lv_has ls 5 [(0, .ref qh0), (1, .int ps), (2, .int ke), (3, .ref owh)] := hl
  have hF : f_L_giveKey q v hi hs ps ke ow = (let u_3 : String × Int32 × StV × HiV × (Nat → StV) := (f_X9_giveKey q v hi hs ps ke); (if u_3.1 = "" then ((0 : Int32), u_3.2.2.1, u_3.2.2.2.1, u_3.2.2.2.2, (vp_updL ow (0 : Int32).toNatClampNeg u_3.2.1.toInt64)) else (if (f_X9_giveKey q v hi hs ps ke).1 = "java/lang/IndexOutOfBoundsException" then ((1 : Int32), v, hi, hs, ow) else (if (f_X9_giveKey q v hi hs ps ke).1 = "java/lang/IllegalArgumentException" then ((2 : Int32), v, hi, hs, ow) else (if (f_X9_giveKey q v hi hs ps ke).1 = "java/lang/IllegalStateException" then ((3 : Int32), v, hi, hs, ow) else (0, v, hi, hs, ow)))))) := rfl
  have hok : (nx9 hi.2 ∧ (let u_3 : String × Int32 × StV × HiV × (Nat → StV) := (f_X9_giveKey q v hi hs ps ke); (if u_3.1 = "" then True else (if (f_X9_giveKey q v hi hs ps ke).1 = "java/lang/IndexOutOfBoundsException" then True else (if (f_X9_giveKey q v hi hs ps ke).1 = "java/lang/IllegalArgumentException" then True else (if (f_X9_giveKey q v hi hs ps ke).1 = "java/lang/IllegalStateException" then True else False)))))) := hok
  refine lv_aload_n hx hb dL_giveKey_0 rfl (lv_at hl 3 rfl) ?_
  refine lv_iconst (v := (0 : Int32)) hx hb dL_giveKey_1 (by decide) ?_
  refine lv_aload_n hx hb dL_giveKey_2 rfl (lv_at hl 0 rfl) ?_
  refine lv_iload_n hx hb dL_giveKey_3 rfl (lv_at hl 1 rfl) ?_
  refine lv_iload_n hx hb dL_giveKey_4 rfl (lv_at hl 2 rfl) ?_
  have k_1 := hok.1
  have hok := hok.2
  refine xw_V (own := RL) (cs := [[(qh0, .inr (11, [.ref (va 0), .ref q_snapshot, .int q.1, .ref hih0, .ref q_program, .ref q_notice, .int q.2.1, .int q.2.2]))], wSt G va v, [(hih0, .inr (7, [.int hi.1, .int hi.2, .ref hsh]))], wHs G hsh hsa hs]) (rs := [[(owh, .inl (G.2.1 3, 1, .inr (.inl ow)))]]) (As := [.int ps, .int ke]) (rest := [.int (0 : Int32), .ref owh]) (c_X9_giveKeyS l hlf G qh0 q_snapshot q_program q_notice va hih0 hsh hsa s.heap.size q v hi hs ps ke k_1) ⟨hx, hb, hml, hown, hts⟩ g_L_64 hdv_X9_giveKey hK hST hS hP hD hA [0, 1, 2, 3] [4] rfl rfl rfl (k0 := 0) rfl rfl rfl ⟨Nat.le_of_ble_eq_true rfl, Nat.le_of_ble_eq_true rfl⟩ ⟨Nat.le_of_ble_eq_true rfl, Nat.le_of_ble_eq_true rfl⟩ rfl hl.1 rfl (Nat.le_of_ble_eq_true rfl) dL_giveKey_5 (fun E ce q9 H locs hE hP hS h3 h4 h5 => ?_) (fun u_3 H locs huu hP hD hS => ?_)
  rotate_left
  obtain ⟨huu, b_2⟩ := huu
  rw [← huu] at b_2
  have eu_3 := huu
  have hP : va_P G.1 vwCl (fl [[(qh0, .inr (11, [.ref (va 0), .ref q_snapshot, .int q.1, .ref hih0, .ref q_program, .ref q_notice, .int q.2.1, .int q.2.2]))], wSt G va u_3.2.2.1, [(hih0, .inr (7, [.int u_3.2.2.2.1.1, .int u_3.2.2.2.1.2, .ref hsh]))], wHs G hsh hsa u_3.2.2.2.2, [(owh, .inl (G.2.1 3, 1, .inr (.inl ow)))]]) H := hP
  have hD : va_D A (fl [[(qh0, .inr (11, [.ref (va 0), .ref q_snapshot, .int q.1, .ref hih0, .ref q_program, .ref q_notice, .int q.2.1, .int q.2.2]))], wSt G va u_3.2.2.1, [(hih0, .inr (7, [.int u_3.2.2.2.1.1, .int u_3.2.2.2.1.2, .ref hsh]))], wHs G hsh hsa u_3.2.2.2.2, [(owh, .inl (G.2.1 3, 1, .inr (.inl ow)))]]) := hD
  refine W.eq (g2 := F0 m 8 ls [.int u_3.2.1, .int (0 : Int32), .ref owh]) rfl ?_
  have hE := b_2.1
  have hF : f_L_giveKey q v hi hs ps ke ow = (if u_3.1 = "" then ((0 : Int32), u_3.2.2.1, u_3.2.2.2.1, u_3.2.2.2.2, (vp_updL ow (0 : Int32).toNatClampNeg u_3.2.1.toInt64)) else (if (f_X9_giveKey q v hi hs ps ke).1 = "java/lang/IndexOutOfBoundsException" then ((1 : Int32), v, hi, hs, ow) else (if (f_X9_giveKey q v hi hs ps ke).1 = "java/lang/IllegalArgumentException" then ((2 : Int32), v, hi, hs, ow) else (if (f_X9_giveKey q v hi hs ps ke).1 = "java/lang/IllegalStateException" then ((3 : Int32), v, hi, hs, ow) else (0, v, hi, hs, ow))))) := by subst eu_3; exact hF
  have hF := hF.trans (if_pos hE)
  have hok : (if u_3.1 = "" then True else (if (f_X9_giveKey q v hi hs ps ke).1 = "java/lang/IndexOutOfBoundsException" then True else (if (f_X9_giveKey q v hi hs ps ke).1 = "java/lang/IllegalArgumentException" then True else (if (f_X9_giveKey q v hi hs ps ke).1 = "java/lang/IllegalStateException" then True else False)))) := by subst eu_3; exact hok
  have hok := Eq.mp (if_pos hE) hok
  refine lv_i2l hx hb dL_giveKey_8 rfl ?_
  refine va_last hx hb hK hP hD hS 203 3 rfl rfl (vp_in_nI (n := 0) (by decide) (by decide)) dL_giveKey_9 (fun H locs hP hD hS => ?_)
  have hP : va_P G.1 vwCl (fl [[(qh0, .inr (11, [.ref (va 0), .ref q_snapshot, .int q.1, .ref hih0, .ref q_program, .ref q_notice, .int q.2.1, .int q.2.2]))], wSt G va u_3.2.2.1, [(hih0, .inr (7, [.int u_3.2.2.2.1.1, .int u_3.2.2.2.1.2, .ref hsh]))], wHs G hsh hsa u_3.2.2.2.2, [(owh, .inl (G.2.1 3, 1, .inr (.inl (vp_updL ow (0 : Int32).toNatClampNeg u_3.2.1.toInt64))))]]) H := hP
  have hD : va_D A (fl [[(qh0, .inr (11, [.ref (va 0), .ref q_snapshot, .int q.1, .ref hih0, .ref q_program, .ref q_notice, .int q.2.1, .int q.2.2]))], wSt G va u_3.2.2.1, [(hih0, .inr (7, [.int u_3.2.2.2.1.1, .int u_3.2.2.2.1.2, .ref hsh]))], wHs G hsh hsa u_3.2.2.2.2, [(owh, .inl (G.2.1 3, 1, .inr (.inl (vp_updL ow (0 : Int32).toNatClampNeg u_3.2.1.toInt64))))]]) := hD
  refine lv_goto (tgt := 25) hx hb dL_giveKey_10 (by decide) ?_
  refine lv_iconst (v := (0 : Int32)) hx hb dL_giveKey_25 (by decide) ?_
  exact w_ret (u := ((0 : Int32), u_3.2.2.1, u_3.2.2.2.1, u_3.2.2.2.2, (vp_updL ow (0 : Int32).toNatClampNeg u_3.2.1.toInt64))) hx hb hr hlk rfl hS rfl hF.symm hP hD (Nat.le_of_ble_eq_true rfl) (Nat.le_of_ble_eq_true rfl) dL_giveKey_26
  have hF := hF.trans (if_neg (fun e => hE.2 (hE.1.trans e)))
  have hok := Eq.mp (if_neg (fun e => hE.2 (hE.1.trans e))) hok
  by_cases c_4 : (f_X9_giveKey q v hi hs ps ke).1 = "java/lang/IndexOutOfBoundsException"
  · have hF := hF.trans (if_pos c_4)
    have hok := Eq.mp (if_pos c_4) hok
    have hEE : E = "java/lang/IndexOutOfBoundsException" := hE.1.trans c_4
    subst hEE
    refine vx_catch (own := RL) (name := "java/lang/IndexOutOfBoundsException") hown [] (⟨0, 10, 13, 21⟩ : ExceptionTableEntry) [(⟨0, 10, 17, 13⟩ : ExceptionTableEntry), (⟨0, 10, 21, 15⟩ : ExceptionTableEntry)] (hxt.trans rfl) (fun z hz => nomatch hz) (by decide) (by decide) (hts _ u_608) (va_tabs rfl rfl (hST.2.2.2.2.2.2.2.1 _ cst_IndexOutOfBoundsException)) h3 h4 h5 ?_
    refine W.eq (g2 := F0 m 13 ls [.ref q9]) rfl ?_
    refine lv_astore (lv' := [(4, .ref q9), (0, .ref qh0), (1, .int ps), (2, .int ke), (3, .ref owh)]) hx hb dL_giveKey_13 hl (by decide) rfl (fun ls hl => ?_)
    refine lv_iconst (v := (1 : Int32)) hx hb dL_giveKey_15 (by decide) ?_
    exact w_ret (u := ((1 : Int32), v, hi, hs, ow)) hx hb hr hlk rfl hS rfl hF.symm hP hD (Nat.le_of_ble_eq_true rfl) (Nat.le_of_ble_eq_true rfl) dL_giveKey_16
  · have hF := hF.trans (if_neg c_4)
    have hok := Eq.mp (if_neg c_4) hok
    by_cases c_5 : (f_X9_giveKey q v hi hs ps ke).1 = "java/lang/IllegalArgumentException"
    · have hF := hF.trans (if_pos c_5)
      have hok := Eq.mp (if_pos c_5) hok
      have hEE : E = "java/lang/IllegalArgumentException" := hE.1.trans c_5
      subst hEE
      refine vx_catch (own := RL) (name := "java/lang/IllegalArgumentException") hown [(⟨0, 10, 13, 21⟩ : ExceptionTableEntry)] (⟨0, 10, 17, 13⟩ : ExceptionTableEntry) [(⟨0, 10, 21, 15⟩ : ExceptionTableEntry)] (hxt.trans rfl) (List.forall_mem_cons.mpr ⟨Or.inr ⟨by decide, "java/lang/IndexOutOfBoundsException", hts _ u_608, hST.2.2.2.2.2.2.2.2.1 ("java/lang/IllegalArgumentException", "java/lang/IndexOutOfBoundsException") (by decide +kernel)⟩, fun _ h => nomatch h⟩) (by decide) (by decide) (hts _ u_403) (va_tabs rfl rfl (hST.2.2.2.2.2.2.2.1 _ cst_IllegalArgumentException)) h3 h4 h5 ?_
      refine W.eq (g2 := F0 m 17 ls [.ref q9]) rfl ?_
      refine lv_astore (lv' := [(4, .ref q9), (0, .ref qh0), (1, .int ps), (2, .int ke), (3, .ref owh)]) hx hb dL_giveKey_17 hl (by decide) rfl (fun ls hl => ?_)
      refine lv_iconst (v := (2 : Int32)) hx hb dL_giveKey_19 (by decide) ?_
      exact w_ret (u := ((2 : Int32), v, hi, hs, ow)) hx hb hr hlk rfl hS rfl hF.symm hP hD (Nat.le_of_ble_eq_true rfl) (Nat.le_of_ble_eq_true rfl) dL_giveKey_20
    · have hF := hF.trans (if_neg c_5)
      have hok := Eq.mp (if_neg c_5) hok
      by_cases c_6 : (f_X9_giveKey q v hi hs ps ke).1 = "java/lang/IllegalStateException"
      · have hF := hF.trans (if_pos c_6)
        have hok := Eq.mp (if_pos c_6) hok
        have hEE : E = "java/lang/IllegalStateException" := hE.1.trans c_6
        subst hEE
        refine vx_catch (own := RL) (name := "java/lang/IllegalStateException") hown [(⟨0, 10, 13, 21⟩ : ExceptionTableEntry), (⟨0, 10, 17, 13⟩ : ExceptionTableEntry)] (⟨0, 10, 21, 15⟩ : ExceptionTableEntry) [] (hxt.trans rfl) (List.forall_mem_cons.mpr ⟨Or.inr ⟨by decide, "java/lang/IndexOutOfBoundsException", hts _ u_608, hST.2.2.2.2.2.2.2.2.1 ("java/lang/IllegalStateException", "java/lang/IndexOutOfBoundsException") (by decide +kernel)⟩, List.forall_mem_cons.mpr ⟨Or.inr ⟨by decide, "java/lang/IllegalArgumentException", hts _ u_403, hST.2.2.2.2.2.2.2.2.1 ("java/lang/IllegalStateException", "java/lang/IllegalArgumentException") (by decide +kernel)⟩, fun _ h => nomatch h⟩⟩) (by decide) (by decide) (hts _ u_404) (va_tabs rfl rfl (hST.2.2.2.2.2.2.2.1 _ cst_IllegalStateException)) h3 h4 h5 ?_
        refine W.eq (g2 := F0 m 21 ls [.ref q9]) rfl ?_
        refine lv_astore (lv' := [(4, .ref q9), (0, .ref qh0), (1, .int ps), (2, .int ke), (3, .ref owh)]) hx hb dL_giveKey_21 hl (by decide) rfl (fun ls hl => ?_)
        refine lv_iconst (v := (3 : Int32)) hx hb dL_giveKey_23 (by decide) ?_
        exact w_ret (u := ((3 : Int32), v, hi, hs, ow)) hx hb hr hlk rfl hS rfl hF.symm hP hD (Nat.le_of_ble_eq_true rfl) (Nat.le_of_ble_eq_true rfl) dL_giveKey_24
      · have hF := hF.trans (if_neg c_6)
        have hok := Eq.mp (if_neg c_6) hok
        exact hok.elim
theorem dL_takeKey_0 : decode cL_takeKey 0 = .ok (.aload_n 3, 1) := by decide +kernel
theorem dL_takeKey_1 : decode cL_takeKey 1 = .ok (.iconst 0, 1) := by decide +kernel
theorem dL_takeKey_2 : decode cL_takeKey 2 = .ok (.aload_n 0, 1) := by decide +kernel
theorem dL_takeKey_3 : decode cL_takeKey 3 = .ok (.iload_n 1, 1) := by decide +kernel
theorem dL_takeKey_4 : decode cL_takeKey 4 = .ok (.iload_n 2, 1) := by decide +kernel
theorem dL_takeKey_5 : decode cL_takeKey 5 = .ok (.invokevirtual 68, 3) := by decide +kernel
theorem u_855 : Cond.methodLink RL 68 yX9_takeKey ∈ UW := uw 855 (by decide +kernel) rfl
theorem u_856 : Cond.instanceMethod yX9_takeKey ∈ UW := uw 856 (by decide +kernel) rfl
theorem u_857 : Cond.selects RX9 yX9_takeKey yX9_takeKey ∈ UW := uw 857 (by decide +kernel) rfl
theorem u_858 : Cond.code yX9_takeKey cX9_takeKey 3 (some .int) ∈ UW := uw 858 (by decide +kernel) rfl
theorem g_L_68 : GoodIn UW (wsV RL 68 RX9 yX9_takeKey (wsU yX9_takeKey cX9_takeKey 3 (some .int))) := gV u_855 u_856 u_857 u_65 u_858
theorem hdv_X9_takeKey : yX9_takeKey.cls = RX9 ∧ yX9_takeKey.cls ≠ "java/lang/invoke/MethodHandle" ∧ yX9_takeKey.cls ≠ "java/lang/invoke/VarHandle" ∧ (parseMethodDescriptor yX9_takeKey.desc).map (fun d => d.parameters.length) = some 2 := by decide +kernel
theorem dL_takeKey_8 : decode cL_takeKey 8 = .ok (.i2l, 1) := by decide +kernel
theorem dL_takeKey_9 : decode cL_takeKey 9 = .ok (.lastore, 1) := by decide +kernel
theorem dL_takeKey_10 : decode cL_takeKey 10 = .ok (.goto 11, 3) := by decide +kernel
theorem dL_takeKey_21 : decode cL_takeKey 21 = .ok (.iconst 0, 1) := by decide +kernel
theorem dL_takeKey_22 : decode cL_takeKey 22 = .ok (.ireturn, 1) := by decide +kernel
theorem dL_takeKey_13 : decode cL_takeKey 13 = .ok (.astore 4, 2) := by decide +kernel
theorem dL_takeKey_15 : decode cL_takeKey 15 = .ok (.iconst 1, 1) := by decide +kernel
theorem dL_takeKey_16 : decode cL_takeKey 16 = .ok (.ireturn, 1) := by decide +kernel
theorem dL_takeKey_17 : decode cL_takeKey 17 = .ok (.astore 4, 2) := by decide +kernel
theorem dL_takeKey_19 : decode cL_takeKey 19 = .ok (.iconst 2, 1) := by decide +kernel
theorem dL_takeKey_20 : decode cL_takeKey 20 = .ok (.ireturn, 1) := by decide +kernel
def f_L_takeKey (q : McV) (v : StV) (hi : HiV) (hs : Nat → StV) (ps : Int32) (ke : Int32) (ow : Nat → Int64) : Int32 × StV × HiV × (Nat → StV) × (Nat → Int64) := (let u_3 : String × Int32 × StV × HiV × (Nat → StV) := (f_X9_takeKey q v hi hs ps ke); (if u_3.1 = "" then ((0 : Int32), u_3.2.2.1, u_3.2.2.2.1, u_3.2.2.2.2, (vp_updL ow (0 : Int32).toNatClampNeg u_3.2.1.toInt64)) else (if (f_X9_takeKey q v hi hs ps ke).1 = "java/lang/IndexOutOfBoundsException" then ((1 : Int32), v, hi, hs, ow) else (if (f_X9_takeKey q v hi hs ps ke).1 = "java/util/NoSuchElementException" then ((2 : Int32), v, hi, hs, ow) else (0, v, hi, hs, ow)))))
def ok_L_takeKey (q : McV) (v : StV) (hi : HiV) (hs : Nat → StV) (ps : Int32) (ke : Int32) (ow : Nat → Int64) : Prop := (nx9 hi.2 ∧ (let u_3 : String × Int32 × StV × HiV × (Nat → StV) := (f_X9_takeKey q v hi hs ps ke); (if u_3.1 = "" then True else (if (f_X9_takeKey q v hi hs ps ke).1 = "java/lang/IndexOutOfBoundsException" then True else (if (f_X9_takeKey q v hi hs ps ke).1 = "java/util/NoSuchElementException" then True else False)))))
set_option maxHeartbeats 8000000 in
set_option maxRecDepth 100000 in
set_option linter.constructorNameAsVariable false in
theorem c_L_takeKey (l : Launch) (hlf : l.stackTraces = false) (G : GG) (qh0 : Nat) (q_snapshot : Nat) (q_program : Nat) (q_notice : Nat) (va : Nat → Nat) (hih0 : Nat) (hsh : Nat) (hsa : Nat → Nat → Nat) (owh : Nat) (sz : Nat) (q : McV) (v : StV) (hi : HiV) (hs : Nat → StV) (ps : Int32) (ke : Int32) (ow : Nat → Int64) (hok : ok_L_takeKey q v hi hs ps ke ow) : wMetH l yL_takeKey cL_takeKey 5 (some .int) [(0, 10, 13, 21), (0, 10, 17, 33)] 10 1 6 G (fl [[(qh0, .inr (11, [.ref (va 0), .ref q_snapshot, .int q.1, .ref hih0, .ref q_program, .ref q_notice, .int q.2.1, .int q.2.2]))], wSt G va v, [(hih0, .inr (7, [.int hi.1, .int hi.2, .ref hsh]))], wHs G hsh hsa hs, [(owh, .inl (G.2.1 3, 1, .inr (.inl ow)))]]) [.ref qh0, .int ps, .int ke, .ref owh] sz (fun u : Int32 × StV × HiV × (Nat → StV) × (Nat → Int64) => some (.int u.1)) (fun u : Int32 × StV × HiV × (Nat → StV) × (Nat → Int64) => u = f_L_takeKey q v hi hs ps ke ow) (fun u : Int32 × StV × HiV × (Nat → StV) × (Nat → Int64) => fl [[(qh0, .inr (11, [.ref (va 0), .ref q_snapshot, .int q.1, .ref hih0, .ref q_program, .ref q_notice, .int q.2.1, .int q.2.2]))], wSt G va u.2.1, [(hih0, .inr (7, [.int u.2.2.1.1, .int u.2.2.1.2, .ref hsh]))], wHs G hsh hsa u.2.2.2.1, [(owh, .inl (G.2.1 3, 1, .inr (.inl u.2.2.2.2)))]]) := by
  refine w_startH (by decide +kernel) (Nat.le_of_ble_eq_true rfl) ?_
  intro p e s m below meth c A hx hb hr hml hts hown hlk hin hxt hP hD hA hK hST ls hl
  have hS : va_S A s.heap s.heap [] := va_S.rf
  have hown : s.vm.findClass RL = some m.cls := hown
  have hl : lv_has ls 5 [(0, .ref qh0), (1, .int ps), (2, .int ke), (3, .ref owh)] := hl
  have hF : f_L_takeKey q v hi hs ps ke ow = (let u_3 : String × Int32 × StV × HiV × (Nat → StV) := (f_X9_takeKey q v hi hs ps ke); (if u_3.1 = "" then ((0 : Int32), u_3.2.2.1, u_3.2.2.2.1, u_3.2.2.2.2, (vp_updL ow (0 : Int32).toNatClampNeg u_3.2.1.toInt64)) else (if (f_X9_takeKey q v hi hs ps ke).1 = "java/lang/IndexOutOfBoundsException" then ((1 : Int32), v, hi, hs, ow) else (if (f_X9_takeKey q v hi hs ps ke).1 = "java/util/NoSuchElementException" then ((2 : Int32), v, hi, hs, ow) else (0, v, hi, hs, ow))))) := rfl
  have hok : (nx9 hi.2 ∧ (let u_3 : String × Int32 × StV × HiV × (Nat → StV) := (f_X9_takeKey q v hi hs ps ke); (if u_3.1 = "" then True else (if (f_X9_takeKey q v hi hs ps ke).1 = "java/lang/IndexOutOfBoundsException" then True else (if (f_X9_takeKey q v hi hs ps ke).1 = "java/util/NoSuchElementException" then True else False))))) := hok
  refine lv_aload_n hx hb dL_takeKey_0 rfl (lv_at hl 3 rfl) ?_
  refine lv_iconst (v := (0 : Int32)) hx hb dL_takeKey_1 (by decide) ?_
  refine lv_aload_n hx hb dL_takeKey_2 rfl (lv_at hl 0 rfl) ?_
  refine lv_iload_n hx hb dL_takeKey_3 rfl (lv_at hl 1 rfl) ?_
  refine lv_iload_n hx hb dL_takeKey_4 rfl (lv_at hl 2 rfl) ?_
  have k_1 := hok.1
  have hok := hok.2
  refine xw_V (own := RL) (cs := [[(qh0, .inr (11, [.ref (va 0), .ref q_snapshot, .int q.1, .ref hih0, .ref q_program, .ref q_notice, .int q.2.1, .int q.2.2]))], wSt G va v, [(hih0, .inr (7, [.int hi.1, .int hi.2, .ref hsh]))], wHs G hsh hsa hs]) (rs := [[(owh, .inl (G.2.1 3, 1, .inr (.inl ow)))]]) (As := [.int ps, .int ke]) (rest := [.int (0 : Int32), .ref owh]) (c_X9_takeKeyS l hlf G qh0 q_snapshot q_program q_notice va hih0 hsh hsa s.heap.size q v hi hs ps ke k_1) ⟨hx, hb, hml, hown, hts⟩ g_L_68 hdv_X9_takeKey hK hST hS hP hD hA [0, 1, 2, 3] [4] rfl rfl rfl (k0 := 0) rfl rfl rfl ⟨Nat.le_of_ble_eq_true rfl, Nat.le_of_ble_eq_true rfl⟩ ⟨Nat.le_of_ble_eq_true rfl, Nat.le_of_ble_eq_true rfl⟩ rfl hl.1 rfl (Nat.le_of_ble_eq_true rfl) dL_takeKey_5 (fun E ce q9 H locs hE hP hS h3 h4 h5 => ?_) (fun u_3 H locs huu hP hD hS => ?_)
  rotate_left
  obtain ⟨huu, b_2⟩ := huu
  rw [← huu] at b_2
  have eu_3 := huu
  have hP : va_P G.1 vwCl (fl [[(qh0, .inr (11, [.ref (va 0), .ref q_snapshot, .int q.1, .ref hih0, .ref q_program, .ref q_notice, .int q.2.1, .int q.2.2]))], wSt G va u_3.2.2.1, [(hih0, .inr (7, [.int u_3.2.2.2.1.1, .int u_3.2.2.2.1.2, .ref hsh]))], wHs G hsh hsa u_3.2.2.2.2, [(owh, .inl (G.2.1 3, 1, .inr (.inl ow)))]]) H := hP
  have hD : va_D A (fl [[(qh0, .inr (11, [.ref (va 0), .ref q_snapshot, .int q.1, .ref hih0, .ref q_program, .ref q_notice, .int q.2.1, .int q.2.2]))], wSt G va u_3.2.2.1, [(hih0, .inr (7, [.int u_3.2.2.2.1.1, .int u_3.2.2.2.1.2, .ref hsh]))], wHs G hsh hsa u_3.2.2.2.2, [(owh, .inl (G.2.1 3, 1, .inr (.inl ow)))]]) := hD
  refine W.eq (g2 := F0 m 8 ls [.int u_3.2.1, .int (0 : Int32), .ref owh]) rfl ?_
  have hE := b_2.1
  have hF : f_L_takeKey q v hi hs ps ke ow = (if u_3.1 = "" then ((0 : Int32), u_3.2.2.1, u_3.2.2.2.1, u_3.2.2.2.2, (vp_updL ow (0 : Int32).toNatClampNeg u_3.2.1.toInt64)) else (if (f_X9_takeKey q v hi hs ps ke).1 = "java/lang/IndexOutOfBoundsException" then ((1 : Int32), v, hi, hs, ow) else (if (f_X9_takeKey q v hi hs ps ke).1 = "java/util/NoSuchElementException" then ((2 : Int32), v, hi, hs, ow) else (0, v, hi, hs, ow)))) := by subst eu_3; exact hF
  have hF := hF.trans (if_pos hE)
  have hok : (if u_3.1 = "" then True else (if (f_X9_takeKey q v hi hs ps ke).1 = "java/lang/IndexOutOfBoundsException" then True else (if (f_X9_takeKey q v hi hs ps ke).1 = "java/util/NoSuchElementException" then True else False))) := by subst eu_3; exact hok
  have hok := Eq.mp (if_pos hE) hok
  refine lv_i2l hx hb dL_takeKey_8 rfl ?_
  refine va_last hx hb hK hP hD hS 203 3 rfl rfl (vp_in_nI (n := 0) (by decide) (by decide)) dL_takeKey_9 (fun H locs hP hD hS => ?_)
  have hP : va_P G.1 vwCl (fl [[(qh0, .inr (11, [.ref (va 0), .ref q_snapshot, .int q.1, .ref hih0, .ref q_program, .ref q_notice, .int q.2.1, .int q.2.2]))], wSt G va u_3.2.2.1, [(hih0, .inr (7, [.int u_3.2.2.2.1.1, .int u_3.2.2.2.1.2, .ref hsh]))], wHs G hsh hsa u_3.2.2.2.2, [(owh, .inl (G.2.1 3, 1, .inr (.inl (vp_updL ow (0 : Int32).toNatClampNeg u_3.2.1.toInt64))))]]) H := hP
  have hD : va_D A (fl [[(qh0, .inr (11, [.ref (va 0), .ref q_snapshot, .int q.1, .ref hih0, .ref q_program, .ref q_notice, .int q.2.1, .int q.2.2]))], wSt G va u_3.2.2.1, [(hih0, .inr (7, [.int u_3.2.2.2.1.1, .int u_3.2.2.2.1.2, .ref hsh]))], wHs G hsh hsa u_3.2.2.2.2, [(owh, .inl (G.2.1 3, 1, .inr (.inl (vp_updL ow (0 : Int32).toNatClampNeg u_3.2.1.toInt64))))]]) := hD
  refine lv_goto (tgt := 21) hx hb dL_takeKey_10 (by decide) ?_
  refine lv_iconst (v := (0 : Int32)) hx hb dL_takeKey_21 (by decide) ?_
  exact w_ret (u := ((0 : Int32), u_3.2.2.1, u_3.2.2.2.1, u_3.2.2.2.2, (vp_updL ow (0 : Int32).toNatClampNeg u_3.2.1.toInt64))) hx hb hr hlk rfl hS rfl hF.symm hP hD (Nat.le_of_ble_eq_true rfl) (Nat.le_of_ble_eq_true rfl) dL_takeKey_22
  have hF := hF.trans (if_neg (fun e => hE.2 (hE.1.trans e)))
  have hok := Eq.mp (if_neg (fun e => hE.2 (hE.1.trans e))) hok
  by_cases c_4 : (f_X9_takeKey q v hi hs ps ke).1 = "java/lang/IndexOutOfBoundsException"
  · have hF := hF.trans (if_pos c_4)
    have hok := Eq.mp (if_pos c_4) hok
    have hEE : E = "java/lang/IndexOutOfBoundsException" := hE.1.trans c_4
    subst hEE
    refine vx_catch (own := RL) (name := "java/lang/IndexOutOfBoundsException") hown [] (⟨0, 10, 13, 21⟩ : ExceptionTableEntry) [(⟨0, 10, 17, 33⟩ : ExceptionTableEntry)] (hxt.trans rfl) (fun z hz => nomatch hz) (by decide) (by decide) (hts _ u_608) (va_tabs rfl rfl (hST.2.2.2.2.2.2.2.1 _ cst_IndexOutOfBoundsException)) h3 h4 h5 ?_
    refine W.eq (g2 := F0 m 13 ls [.ref q9]) rfl ?_
    refine lv_astore (lv' := [(4, .ref q9), (0, .ref qh0), (1, .int ps), (2, .int ke), (3, .ref owh)]) hx hb dL_takeKey_13 hl (by decide) rfl (fun ls hl => ?_)
    refine lv_iconst (v := (1 : Int32)) hx hb dL_takeKey_15 (by decide) ?_
    exact w_ret (u := ((1 : Int32), v, hi, hs, ow)) hx hb hr hlk rfl hS rfl hF.symm hP hD (Nat.le_of_ble_eq_true rfl) (Nat.le_of_ble_eq_true rfl) dL_takeKey_16
  · have hF := hF.trans (if_neg c_4)
    have hok := Eq.mp (if_neg c_4) hok
    by_cases c_5 : (f_X9_takeKey q v hi hs ps ke).1 = "java/util/NoSuchElementException"
    · have hF := hF.trans (if_pos c_5)
      have hok := Eq.mp (if_pos c_5) hok
      have hEE : E = "java/util/NoSuchElementException" := hE.1.trans c_5
      subst hEE
      refine vx_catch (own := RL) (name := "java/util/NoSuchElementException") hown [(⟨0, 10, 13, 21⟩ : ExceptionTableEntry)] (⟨0, 10, 17, 33⟩ : ExceptionTableEntry) [] (hxt.trans rfl) (List.forall_mem_cons.mpr ⟨Or.inr ⟨by decide, "java/lang/IndexOutOfBoundsException", hts _ u_608, hST.2.2.2.2.2.2.2.2.1 ("java/util/NoSuchElementException", "java/lang/IndexOutOfBoundsException") (by decide +kernel)⟩, fun _ h => nomatch h⟩) (by decide) (by decide) (hts _ u_689) (va_tabs rfl rfl (hST.2.2.2.2.2.2.2.1 _ cst_NoSuchElementException)) h3 h4 h5 ?_
      refine W.eq (g2 := F0 m 17 ls [.ref q9]) rfl ?_
      refine lv_astore (lv' := [(4, .ref q9), (0, .ref qh0), (1, .int ps), (2, .int ke), (3, .ref owh)]) hx hb dL_takeKey_17 hl (by decide) rfl (fun ls hl => ?_)
      refine lv_iconst (v := (2 : Int32)) hx hb dL_takeKey_19 (by decide) ?_
      exact w_ret (u := ((2 : Int32), v, hi, hs, ow)) hx hb hr hlk rfl hS rfl hF.symm hP hD (Nat.le_of_ble_eq_true rfl) (Nat.le_of_ble_eq_true rfl) dL_takeKey_20
    · have hF := hF.trans (if_neg c_5)
      have hok := Eq.mp (if_neg c_5) hok
      exact hok.elim
theorem dL_tryDoor_0 : decode cL_tryDoor 0 = .ok (.aload_n 3, 1) := by decide +kernel
theorem dL_tryDoor_1 : decode cL_tryDoor 1 = .ok (.iconst 0, 1) := by decide +kernel
theorem dL_tryDoor_2 : decode cL_tryDoor 2 = .ok (.aload_n 0, 1) := by decide +kernel
theorem dL_tryDoor_3 : decode cL_tryDoor 3 = .ok (.iload_n 1, 1) := by decide +kernel
theorem dL_tryDoor_4 : decode cL_tryDoor 4 = .ok (.iload_n 2, 1) := by decide +kernel
theorem dL_tryDoor_5 : decode cL_tryDoor 5 = .ok (.invokevirtual 71, 3) := by decide +kernel
theorem u_871 : Cond.methodLink RL 71 yX9_tryDoor ∈ UW := uw 871 (by decide +kernel) rfl
theorem u_872 : Cond.instanceMethod yX9_tryDoor ∈ UW := uw 872 (by decide +kernel) rfl
theorem u_873 : Cond.selects RX9 yX9_tryDoor yX9_tryDoor ∈ UW := uw 873 (by decide +kernel) rfl
theorem u_874 : Cond.code yX9_tryDoor cX9_tryDoor 3 (some .int) ∈ UW := uw 874 (by decide +kernel) rfl
theorem g_L_71 : GoodIn UW (wsV RL 71 RX9 yX9_tryDoor (wsU yX9_tryDoor cX9_tryDoor 3 (some .int))) := gV u_871 u_872 u_873 u_65 u_874
theorem hdv_X9_tryDoor : yX9_tryDoor.cls = RX9 ∧ yX9_tryDoor.cls ≠ "java/lang/invoke/MethodHandle" ∧ yX9_tryDoor.cls ≠ "java/lang/invoke/VarHandle" ∧ (parseMethodDescriptor yX9_tryDoor.desc).map (fun d => d.parameters.length) = some 2 := by decide +kernel
theorem dL_tryDoor_8 : decode cL_tryDoor 8 = .ok (.i2l, 1) := by decide +kernel
theorem dL_tryDoor_9 : decode cL_tryDoor 9 = .ok (.lastore, 1) := by decide +kernel
theorem dL_tryDoor_10 : decode cL_tryDoor 10 = .ok (.goto 7, 3) := by decide +kernel
theorem dL_tryDoor_17 : decode cL_tryDoor 17 = .ok (.iconst 0, 1) := by decide +kernel
theorem dL_tryDoor_18 : decode cL_tryDoor 18 = .ok (.ireturn, 1) := by decide +kernel
theorem dL_tryDoor_13 : decode cL_tryDoor 13 = .ok (.astore 4, 2) := by decide +kernel
theorem dL_tryDoor_15 : decode cL_tryDoor 15 = .ok (.iconst 1, 1) := by decide +kernel
theorem dL_tryDoor_16 : decode cL_tryDoor 16 = .ok (.ireturn, 1) := by decide +kernel
def f_L_tryDoor (q : McV) (v : StV) (hi : HiV) (hs : Nat → StV) (ps : Int32) (dr : Int32) (ow : Nat → Int64) : Int32 × StV × HiV × (Nat → StV) × (Nat → Int64) := (let u_3 : String × Int32 × StV × HiV × (Nat → StV) := (f_X9_tryDoor q v hi hs ps dr); (if u_3.1 = "" then ((0 : Int32), u_3.2.2.1, u_3.2.2.2.1, u_3.2.2.2.2, (vp_updL ow (0 : Int32).toNatClampNeg u_3.2.1.toInt64)) else (if (f_X9_tryDoor q v hi hs ps dr).1 = "java/lang/IndexOutOfBoundsException" then ((1 : Int32), v, hi, hs, ow) else (0, v, hi, hs, ow))))
def ok_L_tryDoor (q : McV) (v : StV) (hi : HiV) (hs : Nat → StV) (ps : Int32) (dr : Int32) (ow : Nat → Int64) : Prop := (nx9 hi.2 ∧ (let u_3 : String × Int32 × StV × HiV × (Nat → StV) := (f_X9_tryDoor q v hi hs ps dr); (if u_3.1 = "" then True else (if (f_X9_tryDoor q v hi hs ps dr).1 = "java/lang/IndexOutOfBoundsException" then True else False))))
set_option maxHeartbeats 8000000 in
set_option maxRecDepth 100000 in
set_option linter.constructorNameAsVariable false in
theorem c_L_tryDoor (l : Launch) (hlf : l.stackTraces = false) (G : GG) (qh0 : Nat) (q_snapshot : Nat) (q_program : Nat) (q_notice : Nat) (va : Nat → Nat) (hih0 : Nat) (hsh : Nat) (hsa : Nat → Nat → Nat) (owh : Nat) (sz : Nat) (q : McV) (v : StV) (hi : HiV) (hs : Nat → StV) (ps : Int32) (dr : Int32) (ow : Nat → Int64) (hok : ok_L_tryDoor q v hi hs ps dr ow) : wMetH l yL_tryDoor cL_tryDoor 5 (some .int) [(0, 10, 13, 21)] 10 1 6 G (fl [[(qh0, .inr (11, [.ref (va 0), .ref q_snapshot, .int q.1, .ref hih0, .ref q_program, .ref q_notice, .int q.2.1, .int q.2.2]))], wSt G va v, [(hih0, .inr (7, [.int hi.1, .int hi.2, .ref hsh]))], wHs G hsh hsa hs, [(owh, .inl (G.2.1 3, 1, .inr (.inl ow)))]]) [.ref qh0, .int ps, .int dr, .ref owh] sz (fun u : Int32 × StV × HiV × (Nat → StV) × (Nat → Int64) => some (.int u.1)) (fun u : Int32 × StV × HiV × (Nat → StV) × (Nat → Int64) => u = f_L_tryDoor q v hi hs ps dr ow) (fun u : Int32 × StV × HiV × (Nat → StV) × (Nat → Int64) => fl [[(qh0, .inr (11, [.ref (va 0), .ref q_snapshot, .int q.1, .ref hih0, .ref q_program, .ref q_notice, .int q.2.1, .int q.2.2]))], wSt G va u.2.1, [(hih0, .inr (7, [.int u.2.2.1.1, .int u.2.2.1.2, .ref hsh]))], wHs G hsh hsa u.2.2.2.1, [(owh, .inl (G.2.1 3, 1, .inr (.inl u.2.2.2.2)))]]) := by
  refine w_startH (by decide +kernel) (Nat.le_of_ble_eq_true rfl) ?_
  intro p e s m below meth c A hx hb hr hml hts hown hlk hin hxt hP hD hA hK hST ls hl
  have hS : va_S A s.heap s.heap [] := va_S.rf
  have hown : s.vm.findClass RL = some m.cls := hown
  have hl : lv_has ls 5 [(0, .ref qh0), (1, .int ps), (2, .int dr), (3, .ref owh)] := hl
  have hF : f_L_tryDoor q v hi hs ps dr ow = (let u_3 : String × Int32 × StV × HiV × (Nat → StV) := (f_X9_tryDoor q v hi hs ps dr); (if u_3.1 = "" then ((0 : Int32), u_3.2.2.1, u_3.2.2.2.1, u_3.2.2.2.2, (vp_updL ow (0 : Int32).toNatClampNeg u_3.2.1.toInt64)) else (if (f_X9_tryDoor q v hi hs ps dr).1 = "java/lang/IndexOutOfBoundsException" then ((1 : Int32), v, hi, hs, ow) else (0, v, hi, hs, ow)))) := rfl
  have hok : (nx9 hi.2 ∧ (let u_3 : String × Int32 × StV × HiV × (Nat → StV) := (f_X9_tryDoor q v hi hs ps dr); (if u_3.1 = "" then True else (if (f_X9_tryDoor q v hi hs ps dr).1 = "java/lang/IndexOutOfBoundsException" then True else False)))) := hok
  refine lv_aload_n hx hb dL_tryDoor_0 rfl (lv_at hl 3 rfl) ?_
  refine lv_iconst (v := (0 : Int32)) hx hb dL_tryDoor_1 (by decide) ?_
  refine lv_aload_n hx hb dL_tryDoor_2 rfl (lv_at hl 0 rfl) ?_
  refine lv_iload_n hx hb dL_tryDoor_3 rfl (lv_at hl 1 rfl) ?_
  refine lv_iload_n hx hb dL_tryDoor_4 rfl (lv_at hl 2 rfl) ?_
  have k_1 := hok.1
  have hok := hok.2
  refine xw_V (own := RL) (cs := [[(qh0, .inr (11, [.ref (va 0), .ref q_snapshot, .int q.1, .ref hih0, .ref q_program, .ref q_notice, .int q.2.1, .int q.2.2]))], wSt G va v, [(hih0, .inr (7, [.int hi.1, .int hi.2, .ref hsh]))], wHs G hsh hsa hs]) (rs := [[(owh, .inl (G.2.1 3, 1, .inr (.inl ow)))]]) (As := [.int ps, .int dr]) (rest := [.int (0 : Int32), .ref owh]) (c_X9_tryDoorS l hlf G qh0 q_snapshot q_program q_notice va hih0 hsh hsa s.heap.size q v hi hs ps dr k_1) ⟨hx, hb, hml, hown, hts⟩ g_L_71 hdv_X9_tryDoor hK hST hS hP hD hA [0, 1, 2, 3] [4] rfl rfl rfl (k0 := 0) rfl rfl rfl ⟨Nat.le_of_ble_eq_true rfl, Nat.le_of_ble_eq_true rfl⟩ ⟨Nat.le_of_ble_eq_true rfl, Nat.le_of_ble_eq_true rfl⟩ rfl hl.1 rfl (Nat.le_of_ble_eq_true rfl) dL_tryDoor_5 (fun E ce q9 H locs hE hP hS h3 h4 h5 => ?_) (fun u_3 H locs huu hP hD hS => ?_)
  rotate_left
  obtain ⟨huu, b_2⟩ := huu
  rw [← huu] at b_2
  have eu_3 := huu
  have hP : va_P G.1 vwCl (fl [[(qh0, .inr (11, [.ref (va 0), .ref q_snapshot, .int q.1, .ref hih0, .ref q_program, .ref q_notice, .int q.2.1, .int q.2.2]))], wSt G va u_3.2.2.1, [(hih0, .inr (7, [.int u_3.2.2.2.1.1, .int u_3.2.2.2.1.2, .ref hsh]))], wHs G hsh hsa u_3.2.2.2.2, [(owh, .inl (G.2.1 3, 1, .inr (.inl ow)))]]) H := hP
  have hD : va_D A (fl [[(qh0, .inr (11, [.ref (va 0), .ref q_snapshot, .int q.1, .ref hih0, .ref q_program, .ref q_notice, .int q.2.1, .int q.2.2]))], wSt G va u_3.2.2.1, [(hih0, .inr (7, [.int u_3.2.2.2.1.1, .int u_3.2.2.2.1.2, .ref hsh]))], wHs G hsh hsa u_3.2.2.2.2, [(owh, .inl (G.2.1 3, 1, .inr (.inl ow)))]]) := hD
  refine W.eq (g2 := F0 m 8 ls [.int u_3.2.1, .int (0 : Int32), .ref owh]) rfl ?_
  have hE := b_2.1
  have hF : f_L_tryDoor q v hi hs ps dr ow = (if u_3.1 = "" then ((0 : Int32), u_3.2.2.1, u_3.2.2.2.1, u_3.2.2.2.2, (vp_updL ow (0 : Int32).toNatClampNeg u_3.2.1.toInt64)) else (if (f_X9_tryDoor q v hi hs ps dr).1 = "java/lang/IndexOutOfBoundsException" then ((1 : Int32), v, hi, hs, ow) else (0, v, hi, hs, ow))) := by subst eu_3; exact hF
  have hF := hF.trans (if_pos hE)
  have hok : (if u_3.1 = "" then True else (if (f_X9_tryDoor q v hi hs ps dr).1 = "java/lang/IndexOutOfBoundsException" then True else False)) := by subst eu_3; exact hok
  have hok := Eq.mp (if_pos hE) hok
  refine lv_i2l hx hb dL_tryDoor_8 rfl ?_
  refine va_last hx hb hK hP hD hS 203 3 rfl rfl (vp_in_nI (n := 0) (by decide) (by decide)) dL_tryDoor_9 (fun H locs hP hD hS => ?_)
  have hP : va_P G.1 vwCl (fl [[(qh0, .inr (11, [.ref (va 0), .ref q_snapshot, .int q.1, .ref hih0, .ref q_program, .ref q_notice, .int q.2.1, .int q.2.2]))], wSt G va u_3.2.2.1, [(hih0, .inr (7, [.int u_3.2.2.2.1.1, .int u_3.2.2.2.1.2, .ref hsh]))], wHs G hsh hsa u_3.2.2.2.2, [(owh, .inl (G.2.1 3, 1, .inr (.inl (vp_updL ow (0 : Int32).toNatClampNeg u_3.2.1.toInt64))))]]) H := hP
  have hD : va_D A (fl [[(qh0, .inr (11, [.ref (va 0), .ref q_snapshot, .int q.1, .ref hih0, .ref q_program, .ref q_notice, .int q.2.1, .int q.2.2]))], wSt G va u_3.2.2.1, [(hih0, .inr (7, [.int u_3.2.2.2.1.1, .int u_3.2.2.2.1.2, .ref hsh]))], wHs G hsh hsa u_3.2.2.2.2, [(owh, .inl (G.2.1 3, 1, .inr (.inl (vp_updL ow (0 : Int32).toNatClampNeg u_3.2.1.toInt64))))]]) := hD
  refine lv_goto (tgt := 17) hx hb dL_tryDoor_10 (by decide) ?_
  refine lv_iconst (v := (0 : Int32)) hx hb dL_tryDoor_17 (by decide) ?_
  exact w_ret (u := ((0 : Int32), u_3.2.2.1, u_3.2.2.2.1, u_3.2.2.2.2, (vp_updL ow (0 : Int32).toNatClampNeg u_3.2.1.toInt64))) hx hb hr hlk rfl hS rfl hF.symm hP hD (Nat.le_of_ble_eq_true rfl) (Nat.le_of_ble_eq_true rfl) dL_tryDoor_18
  have hF := hF.trans (if_neg (fun e => hE.2 (hE.1.trans e)))
  have hok := Eq.mp (if_neg (fun e => hE.2 (hE.1.trans e))) hok
  by_cases c_4 : (f_X9_tryDoor q v hi hs ps dr).1 = "java/lang/IndexOutOfBoundsException"
  · have hF := hF.trans (if_pos c_4)
    have hok := Eq.mp (if_pos c_4) hok
    have hEE : E = "java/lang/IndexOutOfBoundsException" := hE.1.trans c_4
    subst hEE
    refine vx_catch (own := RL) (name := "java/lang/IndexOutOfBoundsException") hown [] (⟨0, 10, 13, 21⟩ : ExceptionTableEntry) [] (hxt.trans rfl) (fun z hz => nomatch hz) (by decide) (by decide) (hts _ u_608) (va_tabs rfl rfl (hST.2.2.2.2.2.2.2.1 _ cst_IndexOutOfBoundsException)) h3 h4 h5 ?_
    refine W.eq (g2 := F0 m 13 ls [.ref q9]) rfl ?_
    refine lv_astore (lv' := [(4, .ref q9), (0, .ref qh0), (1, .int ps), (2, .int dr), (3, .ref owh)]) hx hb dL_tryDoor_13 hl (by decide) rfl (fun ls hl => ?_)
    refine lv_iconst (v := (1 : Int32)) hx hb dL_tryDoor_15 (by decide) ?_
    exact w_ret (u := ((1 : Int32), v, hi, hs, ow)) hx hb hr hlk rfl hS rfl hF.symm hP hD (Nat.le_of_ble_eq_true rfl) (Nat.le_of_ble_eq_true rfl) dL_tryDoor_16
  · have hF := hF.trans (if_neg c_4)
    have hok := Eq.mp (if_neg c_4) hok
    exact hok.elim
