theorem dL_daysUntilPhase_0 : decode cL_daysUntilPhase 0 = .ok (.aload_n 2, 1) := by decide +kernel
theorem dL_daysUntilPhase_1 : decode cL_daysUntilPhase 1 = .ok (.iconst 0, 1) := by decide +kernel
theorem dL_daysUntilPhase_2 : decode cL_daysUntilPhase 2 = .ok (.aload_n 0, 1) := by decide +kernel
theorem dL_daysUntilPhase_3 : decode cL_daysUntilPhase 3 = .ok (.iload_n 1, 1) := by decide +kernel
theorem dL_daysUntilPhase_4 : decode cL_daysUntilPhase 4 = .ok (.invokevirtual 98, 3) := by decide +kernel
theorem u_1019 : Cond.methodLink RL 98 yX9_daysUntilPhase ∈ UW := uw 1019 (by decide +kernel) rfl
theorem u_1020 : Cond.instanceMethod yX9_daysUntilPhase ∈ UW := uw 1020 (by decide +kernel) rfl
theorem u_1021 : Cond.selects RX9 yX9_daysUntilPhase yX9_daysUntilPhase ∈ UW := uw 1021 (by decide +kernel) rfl
theorem u_1022 : Cond.code yX9_daysUntilPhase cX9_daysUntilPhase 2 (some .int) ∈ UW := uw 1022 (by decide +kernel) rfl
theorem g_L_98 : GoodIn UW (wsV RL 98 RX9 yX9_daysUntilPhase (wsU yX9_daysUntilPhase cX9_daysUntilPhase 2 (some .int))) := gV u_1019 u_1020 u_1021 u_65 u_1022
theorem hdv_X9_daysUntilPhase : yX9_daysUntilPhase.cls = RX9 ∧ yX9_daysUntilPhase.cls ≠ "java/lang/invoke/MethodHandle" ∧ yX9_daysUntilPhase.cls ≠ "java/lang/invoke/VarHandle" ∧ (parseMethodDescriptor yX9_daysUntilPhase.desc).map (fun d => d.parameters.length) = some 1 := by decide +kernel
theorem dL_daysUntilPhase_12 : decode cL_daysUntilPhase 12 = .ok (.astore_n 3, 1) := by decide +kernel
theorem dL_daysUntilPhase_13 : decode cL_daysUntilPhase 13 = .ok (.iconst 1, 1) := by decide +kernel
theorem dL_daysUntilPhase_14 : decode cL_daysUntilPhase 14 = .ok (.ireturn, 1) := by decide +kernel
theorem dL_daysUntilPhase_7 : decode cL_daysUntilPhase 7 = .ok (.i2l, 1) := by decide +kernel
theorem dL_daysUntilPhase_8 : decode cL_daysUntilPhase 8 = .ok (.lastore, 1) := by decide +kernel
theorem dL_daysUntilPhase_9 : decode cL_daysUntilPhase 9 = .ok (.goto 6, 3) := by decide +kernel
theorem dL_daysUntilPhase_15 : decode cL_daysUntilPhase 15 = .ok (.iconst 0, 1) := by decide +kernel
theorem dL_daysUntilPhase_16 : decode cL_daysUntilPhase 16 = .ok (.ireturn, 1) := by decide +kernel
def f_L_daysUntilPhase (q : McV) (v : StV) (x : Int32) (ow : Nat → Int64) : Int32 × (Nat → Int64) := (if (f_X9_daysUntilPhase q v x).1 = "" then ((0 : Int32), (vp_updL ow (0 : Int32).toNatClampNeg (((f_X9_daysUntilPhase q v x).2).toInt64))) else (if (f_X9_daysUntilPhase q v x).1 = "java/lang/IllegalArgumentException" then ((1 : Int32), ow) else (0, ow)))
def ok_L_daysUntilPhase (q : McV) (v : StV) (x : Int32) (ow : Nat → Int64) : Prop := (if (f_X9_daysUntilPhase q v x).1 = "" then True else (if (f_X9_daysUntilPhase q v x).1 = "java/lang/IllegalArgumentException" then True else False))
set_option maxHeartbeats 8000000 in
set_option maxRecDepth 100000 in
set_option linter.constructorNameAsVariable false in
theorem c_L_daysUntilPhase (l : Launch) (hlf : l.stackTraces = false) (G : GG) (qh0 : Nat) (q_snapshot : Nat) (q_history : Nat) (q_program : Nat) (q_notice : Nat) (va : Nat → Nat) (owh : Nat) (sz : Nat) (q : McV) (v : StV) (x : Int32) (ow : Nat → Int64) (hok : ok_L_daysUntilPhase q v x ow) : wMetH l yL_daysUntilPhase cL_daysUntilPhase 4 (some .int) [(0, 9, 12, 13)] 10 1 6 G (fl [[(qh0, .inr (11, [.ref (va 0), .ref q_snapshot, .int q.1, .ref q_history, .ref q_program, .ref q_notice, .int q.2.1, .int q.2.2]))], wSt G va v, [(owh, .inl (G.2.1 3, 1, .inr (.inl ow)))]]) [.ref qh0, .int x, .ref owh] sz (fun u : Int32 × (Nat → Int64) => some (.int u.1)) (fun u : Int32 × (Nat → Int64) => u = f_L_daysUntilPhase q v x ow) (fun u : Int32 × (Nat → Int64) => fl [[(qh0, .inr (11, [.ref (va 0), .ref q_snapshot, .int q.1, .ref q_history, .ref q_program, .ref q_notice, .int q.2.1, .int q.2.2]))], wSt G va v, [(owh, .inl (G.2.1 3, 1, .inr (.inl u.2)))]]) := by
  refine w_startH (by decide +kernel) (Nat.le_of_ble_eq_true rfl) ?_
  intro p e s m below meth c A hx hb hr hml hts hown hlk hin hxt hP hD hA hK hST ls hl
  have hS : va_S A s.heap s.heap [] := va_S.rf
  have hown : s.vm.findClass RL = some m.cls := hown
  have hl : lv_has ls 4 [(0, .ref qh0), (1, .int x), (2, .ref owh)] := hl
  have hF : f_L_daysUntilPhase q v x ow = (if (f_X9_daysUntilPhase q v x).1 = "" then ((0 : Int32), (vp_updL ow (0 : Int32).toNatClampNeg (((f_X9_daysUntilPhase q v x).2).toInt64))) else (if (f_X9_daysUntilPhase q v x).1 = "java/lang/IllegalArgumentException" then ((1 : Int32), ow) else (0, ow))) := rfl
  have hok : (if (f_X9_daysUntilPhase q v x).1 = "" then True else (if (f_X9_daysUntilPhase q v x).1 = "java/lang/IllegalArgumentException" then True else False)) := hok
  refine lv_aload_n hx hb dL_daysUntilPhase_0 rfl (lv_at hl 2 rfl) ?_
  refine lv_iconst (v := (0 : Int32)) hx hb dL_daysUntilPhase_1 (by decide) ?_
  refine lv_aload_n hx hb dL_daysUntilPhase_2 rfl (lv_at hl 0 rfl) ?_
  refine lv_iload_n hx hb dL_daysUntilPhase_3 rfl (lv_at hl 1 rfl) ?_
  refine xr_V (own := RL) (v := (some (.int ((f_X9_daysUntilPhase q v x).2)))) (st1 := [.int ((f_X9_daysUntilPhase q v x).2), .int (0 : Int32), .ref owh]) (As := [.int x]) (rest := [.int (0 : Int32), .ref owh]) (c_X9_daysUntilPhaseS l hlf G qh0 q_snapshot q_history q_program q_notice va q v x) ⟨hx, hb, hml, hown, hts⟩ g_L_98 hdv_X9_daysUntilPhase hK hST hS hP [0, 1, 2, 3, 4, 5, 6, 7, 8, 9, 10, 11, 12, 13, 14, 15, 16, 17, 18, 19, 20] rfl (k0 := 0) rfl rfl rfl ⟨Nat.le_of_ble_eq_true rfl, Nat.le_of_ble_eq_true rfl⟩ ⟨Nat.le_of_ble_eq_true rfl, Nat.le_of_ble_eq_true rfl⟩ rfl hl.1 rfl (Nat.le_of_ble_eq_true rfl) dL_daysUntilPhase_4 rfl (fun E ce q9 H hE h1 h2 h3 h4 h5 => ?_) (fun b_1 => ?_)
  · have hF := hF.trans (if_neg (fun e => hE.2 (hE.1.trans e)))
    have hok := Eq.mp (if_neg (fun e => hE.2 (hE.1.trans e))) hok
    have hP := hP.kept (fun k q hk => h2 q.1 ((hP k q hk).lt))
    have hS : va_S A s.heap H _ := ⟨Nat.le_trans hS.1 h1, fun q hq hA => (h2 q (Nat.lt_of_lt_of_le hq hS.1)).trans (hS.2.1 q hq hA), hS.2.2⟩
    by_cases c_2 : (f_X9_daysUntilPhase q v x).1 = "java/lang/IllegalArgumentException"
    · have hF := hF.trans (if_pos c_2)
      have hok := Eq.mp (if_pos c_2) hok
      have hEE : E = "java/lang/IllegalArgumentException" := hE.1.trans c_2
      subst hEE
      refine vx_catch (own := RL) (name := "java/lang/IllegalArgumentException") hown [] (⟨0, 9, 12, 13⟩ : ExceptionTableEntry) [] (hxt.trans rfl) (fun z hz => nomatch hz) (by decide) (by decide) (hts _ u_403) (va_tabs rfl rfl (hST.2.2.2.2.2.2.2.1 _ cst_IllegalArgumentException)) h3 h4 h5 ?_
      refine W.eq (g2 := F0 m 12 ls [.ref q9]) rfl ?_
      refine lv_astore_n (lv' := [(3, .ref q9), (0, .ref qh0), (1, .int x), (2, .ref owh)]) hx hb dL_daysUntilPhase_12 rfl hl (by decide) rfl (fun ls hl => ?_)
      refine lv_iconst (v := (1 : Int32)) hx hb dL_daysUntilPhase_13 (by decide) ?_
      exact w_ret (u := ((1 : Int32), ow)) hx hb hr hlk rfl hS rfl hF.symm hP hD (Nat.le_of_ble_eq_true rfl) (Nat.le_of_ble_eq_true rfl) dL_daysUntilPhase_14
    · have hF := hF.trans (if_neg c_2)
      have hok := Eq.mp (if_neg c_2) hok
      exact hok.elim
  · have hE := b_1.1
    have b_1 := b_1.2
    have hF := hF.trans (if_pos hE)
    have hok := Eq.mp (if_pos hE) hok
    refine lv_i2l hx hb dL_daysUntilPhase_7 rfl ?_
    refine va_last hx hb hK hP hD hS 21 3 rfl rfl (vp_in_nI (n := 0) (by decide) (by decide)) dL_daysUntilPhase_8 (fun H locs hP hD hS => ?_)
    have hP : va_P G.1 vwCl (fl [[(qh0, .inr (11, [.ref (va 0), .ref q_snapshot, .int q.1, .ref q_history, .ref q_program, .ref q_notice, .int q.2.1, .int q.2.2]))], wSt G va v, [(owh, .inl (G.2.1 3, 1, .inr (.inl (vp_updL ow (0 : Int32).toNatClampNeg (((f_X9_daysUntilPhase q v x).2).toInt64)))))]]) H := hP
    have hD : va_D A (fl [[(qh0, .inr (11, [.ref (va 0), .ref q_snapshot, .int q.1, .ref q_history, .ref q_program, .ref q_notice, .int q.2.1, .int q.2.2]))], wSt G va v, [(owh, .inl (G.2.1 3, 1, .inr (.inl (vp_updL ow (0 : Int32).toNatClampNeg (((f_X9_daysUntilPhase q v x).2).toInt64)))))]]) := hD
    refine lv_goto (tgt := 15) hx hb dL_daysUntilPhase_9 (by decide) ?_
    refine lv_iconst (v := (0 : Int32)) hx hb dL_daysUntilPhase_15 (by decide) ?_
    exact w_ret (u := ((0 : Int32), (vp_updL ow (0 : Int32).toNatClampNeg (((f_X9_daysUntilPhase q v x).2).toInt64)))) hx hb hr hlk rfl hS rfl hF.symm hP hD (Nat.le_of_ble_eq_true rfl) (Nat.le_of_ble_eq_true rfl) dL_daysUntilPhase_16
theorem dL_isUnlocked_0 : decode cL_isUnlocked 0 = .ok (.aload_n 2, 1) := by decide +kernel
theorem dL_isUnlocked_1 : decode cL_isUnlocked 1 = .ok (.iconst 0, 1) := by decide +kernel
theorem dL_isUnlocked_2 : decode cL_isUnlocked 2 = .ok (.aload_n 0, 1) := by decide +kernel
theorem dL_isUnlocked_3 : decode cL_isUnlocked 3 = .ok (.iload_n 1, 1) := by decide +kernel
theorem dL_isUnlocked_4 : decode cL_isUnlocked 4 = .ok (.invokevirtual 101, 3) := by decide +kernel
theorem u_1030 : Cond.methodLink RL 101 yX9_isUnlocked ∈ UW := uw 1030 (by decide +kernel) rfl
theorem u_1031 : Cond.instanceMethod yX9_isUnlocked ∈ UW := uw 1031 (by decide +kernel) rfl
theorem u_1032 : Cond.selects RX9 yX9_isUnlocked yX9_isUnlocked ∈ UW := uw 1032 (by decide +kernel) rfl
theorem u_1033 : Cond.code yX9_isUnlocked cX9_isUnlocked 2 (some .boolean) ∈ UW := uw 1033 (by decide +kernel) rfl
theorem g_L_101 : GoodIn UW (wsV RL 101 RX9 yX9_isUnlocked (wsU yX9_isUnlocked cX9_isUnlocked 2 (some .boolean))) := gV u_1030 u_1031 u_1032 u_65 u_1033
theorem hdv_X9_isUnlocked : yX9_isUnlocked.cls = RX9 ∧ yX9_isUnlocked.cls ≠ "java/lang/invoke/MethodHandle" ∧ yX9_isUnlocked.cls ≠ "java/lang/invoke/VarHandle" ∧ (parseMethodDescriptor yX9_isUnlocked.desc).map (fun d => d.parameters.length) = some 1 := by decide +kernel
theorem dL_isUnlocked_19 : decode cL_isUnlocked 19 = .ok (.astore_n 3, 1) := by decide +kernel
theorem dL_isUnlocked_20 : decode cL_isUnlocked 20 = .ok (.iconst 1, 1) := by decide +kernel
theorem dL_isUnlocked_21 : decode cL_isUnlocked 21 = .ok (.ireturn, 1) := by decide +kernel
theorem dL_isUnlocked_7 : decode cL_isUnlocked 7 = .ok (.ifCond .eq 7, 3) := by decide +kernel
theorem dL_isUnlocked_14 : decode cL_isUnlocked 14 = .ok (.lconst 0, 1) := by decide +kernel
theorem dL_isUnlocked_15 : decode cL_isUnlocked 15 = .ok (.lastore, 1) := by decide +kernel
theorem dL_isUnlocked_16 : decode cL_isUnlocked 16 = .ok (.goto 6, 3) := by decide +kernel
theorem dL_isUnlocked_22 : decode cL_isUnlocked 22 = .ok (.iconst 0, 1) := by decide +kernel
theorem dL_isUnlocked_23 : decode cL_isUnlocked 23 = .ok (.ireturn, 1) := by decide +kernel
theorem dL_isUnlocked_10 : decode cL_isUnlocked 10 = .ok (.lconst 1, 1) := by decide +kernel
theorem dL_isUnlocked_11 : decode cL_isUnlocked 11 = .ok (.goto 4, 3) := by decide +kernel
def f_L_isUnlocked (q : McV) (v : StV) (x : Int32) (ow : Nat → Int64) : Int32 × (Nat → Int64) := (if (f_X9_isUnlocked q v x).1 = "" then (if (f_X9_isUnlocked q v x).2 = (0 : Int32) then ((0 : Int32), (vp_updL ow (0 : Int32).toNatClampNeg (0 : Int64))) else ((0 : Int32), (vp_updL ow (0 : Int32).toNatClampNeg (1 : Int64)))) else (if (f_X9_isUnlocked q v x).1 = "java/lang/IndexOutOfBoundsException" then ((1 : Int32), ow) else (0, ow)))
def ok_L_isUnlocked (q : McV) (v : StV) (x : Int32) (ow : Nat → Int64) : Prop := (if (f_X9_isUnlocked q v x).1 = "" then True else (if (f_X9_isUnlocked q v x).1 = "java/lang/IndexOutOfBoundsException" then True else False))
set_option maxHeartbeats 8000000 in
set_option maxRecDepth 100000 in
set_option linter.constructorNameAsVariable false in
theorem c_L_isUnlocked (l : Launch) (hlf : l.stackTraces = false) (G : GG) (qh0 : Nat) (q_snapshot : Nat) (q_history : Nat) (q_program : Nat) (q_notice : Nat) (va : Nat → Nat) (owh : Nat) (sz : Nat) (q : McV) (v : StV) (x : Int32) (ow : Nat → Int64) (hok : ok_L_isUnlocked q v x ow) : wMetH l yL_isUnlocked cL_isUnlocked 4 (some .int) [(0, 16, 19, 21)] 10 1 6 G (fl [[(qh0, .inr (11, [.ref (va 0), .ref q_snapshot, .int q.1, .ref q_history, .ref q_program, .ref q_notice, .int q.2.1, .int q.2.2]))], wSt G va v, [(owh, .inl (G.2.1 3, 1, .inr (.inl ow)))]]) [.ref qh0, .int x, .ref owh] sz (fun u : Int32 × (Nat → Int64) => some (.int u.1)) (fun u : Int32 × (Nat → Int64) => u = f_L_isUnlocked q v x ow) (fun u : Int32 × (Nat → Int64) => fl [[(qh0, .inr (11, [.ref (va 0), .ref q_snapshot, .int q.1, .ref q_history, .ref q_program, .ref q_notice, .int q.2.1, .int q.2.2]))], wSt G va v, [(owh, .inl (G.2.1 3, 1, .inr (.inl u.2)))]]) := by
  refine w_startH (by decide +kernel) (Nat.le_of_ble_eq_true rfl) ?_
  intro p e s m below meth c A hx hb hr hml hts hown hlk hin hxt hP hD hA hK hST ls hl
  have hS : va_S A s.heap s.heap [] := va_S.rf
  have hown : s.vm.findClass RL = some m.cls := hown
  have hl : lv_has ls 4 [(0, .ref qh0), (1, .int x), (2, .ref owh)] := hl
  have hF : f_L_isUnlocked q v x ow = (if (f_X9_isUnlocked q v x).1 = "" then (if (f_X9_isUnlocked q v x).2 = (0 : Int32) then ((0 : Int32), (vp_updL ow (0 : Int32).toNatClampNeg (0 : Int64))) else ((0 : Int32), (vp_updL ow (0 : Int32).toNatClampNeg (1 : Int64)))) else (if (f_X9_isUnlocked q v x).1 = "java/lang/IndexOutOfBoundsException" then ((1 : Int32), ow) else (0, ow))) := rfl
  have hok : (if (f_X9_isUnlocked q v x).1 = "" then True else (if (f_X9_isUnlocked q v x).1 = "java/lang/IndexOutOfBoundsException" then True else False)) := hok
  refine lv_aload_n hx hb dL_isUnlocked_0 rfl (lv_at hl 2 rfl) ?_
  refine lv_iconst (v := (0 : Int32)) hx hb dL_isUnlocked_1 (by decide) ?_
  refine lv_aload_n hx hb dL_isUnlocked_2 rfl (lv_at hl 0 rfl) ?_
  refine lv_iload_n hx hb dL_isUnlocked_3 rfl (lv_at hl 1 rfl) ?_
  refine xr_V (own := RL) (v := (some (.int ((f_X9_isUnlocked q v x).2)))) (st1 := [.int ((f_X9_isUnlocked q v x).2), .int (0 : Int32), .ref owh]) (As := [.int x]) (rest := [.int (0 : Int32), .ref owh]) (c_X9_isUnlockedS l hlf G qh0 q_snapshot q_history q_program q_notice va q v x) ⟨hx, hb, hml, hown, hts⟩ g_L_101 hdv_X9_isUnlocked hK hST hS hP [0, 1, 2, 3, 4, 5, 6, 7, 8, 9, 10, 11, 12, 13, 14, 15, 16, 17, 18, 19, 20] rfl (k0 := 0) rfl rfl rfl ⟨Nat.le_of_ble_eq_true rfl, Nat.le_of_ble_eq_true rfl⟩ ⟨Nat.le_of_ble_eq_true rfl, Nat.le_of_ble_eq_true rfl⟩ rfl hl.1 rfl (Nat.le_of_ble_eq_true rfl) dL_isUnlocked_4 rfl (fun E ce q9 H hE h1 h2 h3 h4 h5 => ?_) (fun b_1 => ?_)
  · have hF := hF.trans (if_neg (fun e => hE.2 (hE.1.trans e)))
    have hok := Eq.mp (if_neg (fun e => hE.2 (hE.1.trans e))) hok
    have hP := hP.kept (fun k q hk => h2 q.1 ((hP k q hk).lt))
    have hS : va_S A s.heap H _ := ⟨Nat.le_trans hS.1 h1, fun q hq hA => (h2 q (Nat.lt_of_lt_of_le hq hS.1)).trans (hS.2.1 q hq hA), hS.2.2⟩
    by_cases c_2 : (f_X9_isUnlocked q v x).1 = "java/lang/IndexOutOfBoundsException"
    · have hF := hF.trans (if_pos c_2)
      have hok := Eq.mp (if_pos c_2) hok
      have hEE : E = "java/lang/IndexOutOfBoundsException" := hE.1.trans c_2
      subst hEE
      refine vx_catch (own := RL) (name := "java/lang/IndexOutOfBoundsException") hown [] (⟨0, 16, 19, 21⟩ : ExceptionTableEntry) [] (hxt.trans rfl) (fun z hz => nomatch hz) (by decide) (by decide) (hts _ u_608) (va_tabs rfl rfl (hST.2.2.2.2.2.2.2.1 _ cst_IndexOutOfBoundsException)) h3 h4 h5 ?_
      refine W.eq (g2 := F0 m 19 ls [.ref q9]) rfl ?_
      refine lv_astore_n (lv' := [(3, .ref q9), (0, .ref qh0), (1, .int x), (2, .ref owh)]) hx hb dL_isUnlocked_19 rfl hl (by decide) rfl (fun ls hl => ?_)
      refine lv_iconst (v := (1 : Int32)) hx hb dL_isUnlocked_20 (by decide) ?_
      exact w_ret (u := ((1 : Int32), ow)) hx hb hr hlk rfl hS rfl hF.symm hP hD (Nat.le_of_ble_eq_true rfl) (Nat.le_of_ble_eq_true rfl) dL_isUnlocked_21
    · have hF := hF.trans (if_neg c_2)
      have hok := Eq.mp (if_neg c_2) hok
      exact hok.elim
  · have hE := b_1.1
    have b_1 := b_1.2
    have hF := hF.trans (if_pos hE)
    have hok := Eq.mp (if_pos hE) hok
    refine lv_if_eq (tgt := 14) hx hb dL_isUnlocked_7 (by decide) (fun c_3 => ?_) (fun c_3 => ?_)
    · have hF := hF.trans (if_pos c_3)
      refine lv_lconst (v := (0 : Int64)) hx hb dL_isUnlocked_14 (by decide) ?_
      refine va_last hx hb hK hP hD hS 21 3 rfl rfl (vp_in_nI (n := 0) (by decide) (by decide)) dL_isUnlocked_15 (fun H locs hP hD hS => ?_)
      have hP : va_P G.1 vwCl (fl [[(qh0, .inr (11, [.ref (va 0), .ref q_snapshot, .int q.1, .ref q_history, .ref q_program, .ref q_notice, .int q.2.1, .int q.2.2]))], wSt G va v, [(owh, .inl (G.2.1 3, 1, .inr (.inl (vp_updL ow (0 : Int32).toNatClampNeg (0 : Int64)))))]]) H := hP
      have hD : va_D A (fl [[(qh0, .inr (11, [.ref (va 0), .ref q_snapshot, .int q.1, .ref q_history, .ref q_program, .ref q_notice, .int q.2.1, .int q.2.2]))], wSt G va v, [(owh, .inl (G.2.1 3, 1, .inr (.inl (vp_updL ow (0 : Int32).toNatClampNeg (0 : Int64)))))]]) := hD
      refine lv_goto (tgt := 22) hx hb dL_isUnlocked_16 (by decide) ?_
      refine lv_iconst (v := (0 : Int32)) hx hb dL_isUnlocked_22 (by decide) ?_
      exact w_ret (u := ((0 : Int32), (vp_updL ow (0 : Int32).toNatClampNeg (0 : Int64)))) hx hb hr hlk rfl hS rfl hF.symm hP hD (Nat.le_of_ble_eq_true rfl) (Nat.le_of_ble_eq_true rfl) dL_isUnlocked_23
    · have hF := hF.trans (if_neg c_3)
      refine lv_lconst (v := (1 : Int64)) hx hb dL_isUnlocked_10 (by decide) ?_
      refine lv_goto (tgt := 15) hx hb dL_isUnlocked_11 (by decide) ?_
      refine va_last hx hb hK hP hD hS 21 3 rfl rfl (vp_in_nI (n := 0) (by decide) (by decide)) dL_isUnlocked_15 (fun H locs hP hD hS => ?_)
      have hP : va_P G.1 vwCl (fl [[(qh0, .inr (11, [.ref (va 0), .ref q_snapshot, .int q.1, .ref q_history, .ref q_program, .ref q_notice, .int q.2.1, .int q.2.2]))], wSt G va v, [(owh, .inl (G.2.1 3, 1, .inr (.inl (vp_updL ow (0 : Int32).toNatClampNeg (1 : Int64)))))]]) H := hP
      have hD : va_D A (fl [[(qh0, .inr (11, [.ref (va 0), .ref q_snapshot, .int q.1, .ref q_history, .ref q_program, .ref q_notice, .int q.2.1, .int q.2.2]))], wSt G va v, [(owh, .inl (G.2.1 3, 1, .inr (.inl (vp_updL ow (0 : Int32).toNatClampNeg (1 : Int64)))))]]) := hD
      refine lv_goto (tgt := 22) hx hb dL_isUnlocked_16 (by decide) ?_
      refine lv_iconst (v := (0 : Int32)) hx hb dL_isUnlocked_22 (by decide) ?_
      exact w_ret (u := ((0 : Int32), (vp_updL ow (0 : Int32).toNatClampNeg (1 : Int64)))) hx hb hr hlk rfl hS rfl hF.symm hP hD (Nat.le_of_ble_eq_true rfl) (Nat.le_of_ble_eq_true rfl) dL_isUnlocked_23
theorem dL_hoursUntilUnlocked_0 : decode cL_hoursUntilUnlocked 0 = .ok (.aload_n 2, 1) := by decide +kernel
theorem dL_hoursUntilUnlocked_1 : decode cL_hoursUntilUnlocked 1 = .ok (.iconst 0, 1) := by decide +kernel
theorem dL_hoursUntilUnlocked_2 : decode cL_hoursUntilUnlocked 2 = .ok (.aload_n 0, 1) := by decide +kernel
theorem dL_hoursUntilUnlocked_3 : decode cL_hoursUntilUnlocked 3 = .ok (.iload_n 1, 1) := by decide +kernel
theorem dL_hoursUntilUnlocked_4 : decode cL_hoursUntilUnlocked 4 = .ok (.invokevirtual 105, 3) := by decide +kernel
theorem u_1041 : Cond.methodLink RL 105 yX9_hoursUntilUnlocked ∈ UW := uw 1041 (by decide +kernel) rfl
theorem u_1042 : Cond.instanceMethod yX9_hoursUntilUnlocked ∈ UW := uw 1042 (by decide +kernel) rfl
theorem u_1043 : Cond.selects RX9 yX9_hoursUntilUnlocked yX9_hoursUntilUnlocked ∈ UW := uw 1043 (by decide +kernel) rfl
theorem u_1044 : Cond.code yX9_hoursUntilUnlocked cX9_hoursUntilUnlocked 3 (some .int) ∈ UW := uw 1044 (by decide +kernel) rfl
theorem g_L_105 : GoodIn UW (wsV RL 105 RX9 yX9_hoursUntilUnlocked (wsU yX9_hoursUntilUnlocked cX9_hoursUntilUnlocked 3 (some .int))) := gV u_1041 u_1042 u_1043 u_65 u_1044
theorem hdv_X9_hoursUntilUnlocked : yX9_hoursUntilUnlocked.cls = RX9 ∧ yX9_hoursUntilUnlocked.cls ≠ "java/lang/invoke/MethodHandle" ∧ yX9_hoursUntilUnlocked.cls ≠ "java/lang/invoke/VarHandle" ∧ (parseMethodDescriptor yX9_hoursUntilUnlocked.desc).map (fun d => d.parameters.length) = some 1 := by decide +kernel
theorem dL_hoursUntilUnlocked_12 : decode cL_hoursUntilUnlocked 12 = .ok (.astore_n 3, 1) := by decide +kernel
theorem dL_hoursUntilUnlocked_13 : decode cL_hoursUntilUnlocked 13 = .ok (.iconst 1, 1) := by decide +kernel
theorem dL_hoursUntilUnlocked_14 : decode cL_hoursUntilUnlocked 14 = .ok (.ireturn, 1) := by decide +kernel
theorem dL_hoursUntilUnlocked_15 : decode cL_hoursUntilUnlocked 15 = .ok (.astore_n 3, 1) := by decide +kernel
theorem dL_hoursUntilUnlocked_16 : decode cL_hoursUntilUnlocked 16 = .ok (.iconst 2, 1) := by decide +kernel
theorem dL_hoursUntilUnlocked_17 : decode cL_hoursUntilUnlocked 17 = .ok (.ireturn, 1) := by decide +kernel
theorem dL_hoursUntilUnlocked_7 : decode cL_hoursUntilUnlocked 7 = .ok (.i2l, 1) := by decide +kernel
theorem dL_hoursUntilUnlocked_8 : decode cL_hoursUntilUnlocked 8 = .ok (.lastore, 1) := by decide +kernel
theorem dL_hoursUntilUnlocked_9 : decode cL_hoursUntilUnlocked 9 = .ok (.goto 9, 3) := by decide +kernel
theorem dL_hoursUntilUnlocked_18 : decode cL_hoursUntilUnlocked 18 = .ok (.iconst 0, 1) := by decide +kernel
theorem dL_hoursUntilUnlocked_19 : decode cL_hoursUntilUnlocked 19 = .ok (.ireturn, 1) := by decide +kernel
def f_L_hoursUntilUnlocked (q : McV) (v : StV) (x : Int32) (ow : Nat → Int64) : Int32 × (Nat → Int64) := (if (f_X9_hoursUntilUnlocked q v x).1 = "" then ((0 : Int32), (vp_updL ow (0 : Int32).toNatClampNeg (((f_X9_hoursUntilUnlocked q v x).2).toInt64))) else (if (f_X9_hoursUntilUnlocked q v x).1 = "java/lang/IndexOutOfBoundsException" then ((1 : Int32), ow) else (if (f_X9_hoursUntilUnlocked q v x).1 = "java/util/NoSuchElementException" then ((2 : Int32), ow) else (0, ow))))
def ok_L_hoursUntilUnlocked (q : McV) (v : StV) (x : Int32) (ow : Nat → Int64) : Prop := (if (f_X9_hoursUntilUnlocked q v x).1 = "" then True else (if (f_X9_hoursUntilUnlocked q v x).1 = "java/lang/IndexOutOfBoundsException" then True else (if (f_X9_hoursUntilUnlocked q v x).1 = "java/util/NoSuchElementException" then True else False)))
set_option maxHeartbeats 8000000 in
set_option maxRecDepth 100000 in
set_option linter.constructorNameAsVariable false in
theorem c_L_hoursUntilUnlocked (l : Launch) (hlf : l.stackTraces = false) (G : GG) (qh0 : Nat) (q_snapshot : Nat) (q_history : Nat) (q_program : Nat) (q_notice : Nat) (va : Nat → Nat) (owh : Nat) (sz : Nat) (q : McV) (v : StV) (x : Int32) (ow : Nat → Int64) (hok : ok_L_hoursUntilUnlocked q v x ow) : wMetH l yL_hoursUntilUnlocked cL_hoursUntilUnlocked 4 (some .int) [(0, 9, 12, 21), (0, 9, 15, 33)] 10 2 12 G (fl [[(qh0, .inr (11, [.ref (va 0), .ref q_snapshot, .int q.1, .ref q_history, .ref q_program, .ref q_notice, .int q.2.1, .int q.2.2]))], wSt G va v, [(owh, .inl (G.2.1 3, 1, .inr (.inl ow)))]]) [.ref qh0, .int x, .ref owh] sz (fun u : Int32 × (Nat → Int64) => some (.int u.1)) (fun u : Int32 × (Nat → Int64) => u = f_L_hoursUntilUnlocked q v x ow) (fun u : Int32 × (Nat → Int64) => fl [[(qh0, .inr (11, [.ref (va 0), .ref q_snapshot, .int q.1, .ref q_history, .ref q_program, .ref q_notice, .int q.2.1, .int q.2.2]))], wSt G va v, [(owh, .inl (G.2.1 3, 1, .inr (.inl u.2)))]]) := by
  refine w_startH (by decide +kernel) (Nat.le_of_ble_eq_true rfl) ?_
  intro p e s m below meth c A hx hb hr hml hts hown hlk hin hxt hP hD hA hK hST ls hl
  have hS : va_S A s.heap s.heap [] := va_S.rf
  have hown : s.vm.findClass RL = some m.cls := hown
  have hl : lv_has ls 4 [(0, .ref qh0), (1, .int x), (2, .ref owh)] := hl
  have hF : f_L_hoursUntilUnlocked q v x ow = (if (f_X9_hoursUntilUnlocked q v x).1 = "" then ((0 : Int32), (vp_updL ow (0 : Int32).toNatClampNeg (((f_X9_hoursUntilUnlocked q v x).2).toInt64))) else (if (f_X9_hoursUntilUnlocked q v x).1 = "java/lang/IndexOutOfBoundsException" then ((1 : Int32), ow) else (if (f_X9_hoursUntilUnlocked q v x).1 = "java/util/NoSuchElementException" then ((2 : Int32), ow) else (0, ow)))) := rfl
  have hok : (if (f_X9_hoursUntilUnlocked q v x).1 = "" then True else (if (f_X9_hoursUntilUnlocked q v x).1 = "java/lang/IndexOutOfBoundsException" then True else (if (f_X9_hoursUntilUnlocked q v x).1 = "java/util/NoSuchElementException" then True else False))) := hok
  refine lv_aload_n hx hb dL_hoursUntilUnlocked_0 rfl (lv_at hl 2 rfl) ?_
  refine lv_iconst (v := (0 : Int32)) hx hb dL_hoursUntilUnlocked_1 (by decide) ?_
  refine lv_aload_n hx hb dL_hoursUntilUnlocked_2 rfl (lv_at hl 0 rfl) ?_
  refine lv_iload_n hx hb dL_hoursUntilUnlocked_3 rfl (lv_at hl 1 rfl) ?_
  refine xr_V (own := RL) (v := (some (.int ((f_X9_hoursUntilUnlocked q v x).2)))) (st1 := [.int ((f_X9_hoursUntilUnlocked q v x).2), .int (0 : Int32), .ref owh]) (As := [.int x]) (rest := [.int (0 : Int32), .ref owh]) (c_X9_hoursUntilUnlockedS l hlf G qh0 q_snapshot q_history q_program q_notice va q v x) ⟨hx, hb, hml, hown, hts⟩ g_L_105 hdv_X9_hoursUntilUnlocked hK hST hS hP [0, 1, 2, 3, 4, 5, 6, 7, 8, 9, 10, 11, 12, 13, 14, 15, 16, 17, 18, 19, 20] rfl (k0 := 0) rfl rfl rfl ⟨Nat.le_of_ble_eq_true rfl, Nat.le_of_ble_eq_true rfl⟩ ⟨Nat.le_of_ble_eq_true rfl, Nat.le_of_ble_eq_true rfl⟩ rfl hl.1 rfl (Nat.le_of_ble_eq_true rfl) dL_hoursUntilUnlocked_4 rfl (fun E ce q9 H hE h1 h2 h3 h4 h5 => ?_) (fun b_1 => ?_)
  · have hF := hF.trans (if_neg (fun e => hE.2 (hE.1.trans e)))
    have hok := Eq.mp (if_neg (fun e => hE.2 (hE.1.trans e))) hok
    have hP := hP.kept (fun k q hk => h2 q.1 ((hP k q hk).lt))
    have hS : va_S A s.heap H _ := ⟨Nat.le_trans hS.1 h1, fun q hq hA => (h2 q (Nat.lt_of_lt_of_le hq hS.1)).trans (hS.2.1 q hq hA), hS.2.2⟩
    by_cases c_2 : (f_X9_hoursUntilUnlocked q v x).1 = "java/lang/IndexOutOfBoundsException"
    · have hF := hF.trans (if_pos c_2)
      have hok := Eq.mp (if_pos c_2) hok
      have hEE : E = "java/lang/IndexOutOfBoundsException" := hE.1.trans c_2
      subst hEE
      refine vx_catch (own := RL) (name := "java/lang/IndexOutOfBoundsException") hown [] (⟨0, 9, 12, 21⟩ : ExceptionTableEntry) [(⟨0, 9, 15, 33⟩ : ExceptionTableEntry)] (hxt.trans rfl) (fun z hz => nomatch hz) (by decide) (by decide) (hts _ u_608) (va_tabs rfl rfl (hST.2.2.2.2.2.2.2.1 _ cst_IndexOutOfBoundsException)) h3 h4 h5 ?_
      refine W.eq (g2 := F0 m 12 ls [.ref q9]) rfl ?_
      refine lv_astore_n (lv' := [(3, .ref q9), (0, .ref qh0), (1, .int x), (2, .ref owh)]) hx hb dL_hoursUntilUnlocked_12 rfl hl (by decide) rfl (fun ls hl => ?_)
      refine lv_iconst (v := (1 : Int32)) hx hb dL_hoursUntilUnlocked_13 (by decide) ?_
      exact w_ret (u := ((1 : Int32), ow)) hx hb hr hlk rfl hS rfl hF.symm hP hD (Nat.le_of_ble_eq_true rfl) (Nat.le_of_ble_eq_true rfl) dL_hoursUntilUnlocked_14
    · have hF := hF.trans (if_neg c_2)
      have hok := Eq.mp (if_neg c_2) hok
      by_cases c_3 : (f_X9_hoursUntilUnlocked q v x).1 = "java/util/NoSuchElementException"
      · have hF := hF.trans (if_pos c_3)
        have hok := Eq.mp (if_pos c_3) hok
        have hEE : E = "java/util/NoSuchElementException" := hE.1.trans c_3
        subst hEE
        refine vx_catch (own := RL) (name := "java/util/NoSuchElementException") hown [(⟨0, 9, 12, 21⟩ : ExceptionTableEntry)] (⟨0, 9, 15, 33⟩ : ExceptionTableEntry) [] (hxt.trans rfl) (List.forall_mem_cons.mpr ⟨Or.inr ⟨by decide, "java/lang/IndexOutOfBoundsException", hts _ u_608, hST.2.2.2.2.2.2.2.2.1 ("java/util/NoSuchElementException", "java/lang/IndexOutOfBoundsException") (by decide +kernel)⟩, fun _ h => nomatch h⟩) (by decide) (by decide) (hts _ u_689) (va_tabs rfl rfl (hST.2.2.2.2.2.2.2.1 _ cst_NoSuchElementException)) h3 h4 h5 ?_
        refine W.eq (g2 := F0 m 15 ls [.ref q9]) rfl ?_
        refine lv_astore_n (lv' := [(3, .ref q9), (0, .ref qh0), (1, .int x), (2, .ref owh)]) hx hb dL_hoursUntilUnlocked_15 rfl hl (by decide) rfl (fun ls hl => ?_)
        refine lv_iconst (v := (2 : Int32)) hx hb dL_hoursUntilUnlocked_16 (by decide) ?_
        exact w_ret (u := ((2 : Int32), ow)) hx hb hr hlk rfl hS rfl hF.symm hP hD (Nat.le_of_ble_eq_true rfl) (Nat.le_of_ble_eq_true rfl) dL_hoursUntilUnlocked_17
      · have hF := hF.trans (if_neg c_3)
        have hok := Eq.mp (if_neg c_3) hok
        exact hok.elim
  · have hE := b_1.1
    have b_1 := b_1.2
    have hF := hF.trans (if_pos hE)
    have hok := Eq.mp (if_pos hE) hok
    refine lv_i2l hx hb dL_hoursUntilUnlocked_7 rfl ?_
    refine va_last hx hb hK hP hD hS 21 3 rfl rfl (vp_in_nI (n := 0) (by decide) (by decide)) dL_hoursUntilUnlocked_8 (fun H locs hP hD hS => ?_)
    have hP : va_P G.1 vwCl (fl [[(qh0, .inr (11, [.ref (va 0), .ref q_snapshot, .int q.1, .ref q_history, .ref q_program, .ref q_notice, .int q.2.1, .int q.2.2]))], wSt G va v, [(owh, .inl (G.2.1 3, 1, .inr (.inl (vp_updL ow (0 : Int32).toNatClampNeg (((f_X9_hoursUntilUnlocked q v x).2).toInt64)))))]]) H := hP
    have hD : va_D A (fl [[(qh0, .inr (11, [.ref (va 0), .ref q_snapshot, .int q.1, .ref q_history, .ref q_program, .ref q_notice, .int q.2.1, .int q.2.2]))], wSt G va v, [(owh, .inl (G.2.1 3, 1, .inr (.inl (vp_updL ow (0 : Int32).toNatClampNeg (((f_X9_hoursUntilUnlocked q v x).2).toInt64)))))]]) := hD
    refine lv_goto (tgt := 18) hx hb dL_hoursUntilUnlocked_9 (by decide) ?_
    refine lv_iconst (v := (0 : Int32)) hx hb dL_hoursUntilUnlocked_18 (by decide) ?_
    exact w_ret (u := ((0 : Int32), (vp_updL ow (0 : Int32).toNatClampNeg (((f_X9_hoursUntilUnlocked q v x).2).toInt64)))) hx hb hr hlk rfl hS rfl hF.symm hP hD (Nat.le_of_ble_eq_true rfl) (Nat.le_of_ble_eq_true rfl) dL_hoursUntilUnlocked_19
theorem dL_hoursUntilUnlockedByDays_0 : decode cL_hoursUntilUnlockedByDays 0 = .ok (.aload_n 2, 1) := by decide +kernel
theorem dL_hoursUntilUnlockedByDays_1 : decode cL_hoursUntilUnlockedByDays 1 = .ok (.iconst 0, 1) := by decide +kernel
theorem dL_hoursUntilUnlockedByDays_2 : decode cL_hoursUntilUnlockedByDays 2 = .ok (.aload_n 0, 1) := by decide +kernel
theorem dL_hoursUntilUnlockedByDays_3 : decode cL_hoursUntilUnlockedByDays 3 = .ok (.iload_n 1, 1) := by decide +kernel
theorem dL_hoursUntilUnlockedByDays_4 : decode cL_hoursUntilUnlockedByDays 4 = .ok (.invokevirtual 108, 3) := by decide +kernel
theorem u_1053 : Cond.methodLink RL 108 yX9_hoursUntilUnlockedByDays ∈ UW := uw 1053 (by decide +kernel) rfl
theorem u_1054 : Cond.instanceMethod yX9_hoursUntilUnlockedByDays ∈ UW := uw 1054 (by decide +kernel) rfl
theorem u_1055 : Cond.selects RX9 yX9_hoursUntilUnlockedByDays yX9_hoursUntilUnlockedByDays ∈ UW := uw 1055 (by decide +kernel) rfl
theorem u_1056 : Cond.code yX9_hoursUntilUnlockedByDays cX9_hoursUntilUnlockedByDays 3 (some .int) ∈ UW := uw 1056 (by decide +kernel) rfl
theorem g_L_108 : GoodIn UW (wsV RL 108 RX9 yX9_hoursUntilUnlockedByDays (wsU yX9_hoursUntilUnlockedByDays cX9_hoursUntilUnlockedByDays 3 (some .int))) := gV u_1053 u_1054 u_1055 u_65 u_1056
theorem hdv_X9_hoursUntilUnlockedByDays : yX9_hoursUntilUnlockedByDays.cls = RX9 ∧ yX9_hoursUntilUnlockedByDays.cls ≠ "java/lang/invoke/MethodHandle" ∧ yX9_hoursUntilUnlockedByDays.cls ≠ "java/lang/invoke/VarHandle" ∧ (parseMethodDescriptor yX9_hoursUntilUnlockedByDays.desc).map (fun d => d.parameters.length) = some 1 := by decide +kernel
theorem dL_hoursUntilUnlockedByDays_12 : decode cL_hoursUntilUnlockedByDays 12 = .ok (.astore_n 3, 1) := by decide +kernel
theorem dL_hoursUntilUnlockedByDays_13 : decode cL_hoursUntilUnlockedByDays 13 = .ok (.iconst 1, 1) := by decide +kernel
theorem dL_hoursUntilUnlockedByDays_14 : decode cL_hoursUntilUnlockedByDays 14 = .ok (.ireturn, 1) := by decide +kernel
theorem dL_hoursUntilUnlockedByDays_15 : decode cL_hoursUntilUnlockedByDays 15 = .ok (.astore_n 3, 1) := by decide +kernel
theorem dL_hoursUntilUnlockedByDays_16 : decode cL_hoursUntilUnlockedByDays 16 = .ok (.iconst 2, 1) := by decide +kernel
theorem dL_hoursUntilUnlockedByDays_17 : decode cL_hoursUntilUnlockedByDays 17 = .ok (.ireturn, 1) := by decide +kernel
theorem dL_hoursUntilUnlockedByDays_7 : decode cL_hoursUntilUnlockedByDays 7 = .ok (.i2l, 1) := by decide +kernel
theorem dL_hoursUntilUnlockedByDays_8 : decode cL_hoursUntilUnlockedByDays 8 = .ok (.lastore, 1) := by decide +kernel
theorem dL_hoursUntilUnlockedByDays_9 : decode cL_hoursUntilUnlockedByDays 9 = .ok (.goto 9, 3) := by decide +kernel
theorem dL_hoursUntilUnlockedByDays_18 : decode cL_hoursUntilUnlockedByDays 18 = .ok (.iconst 0, 1) := by decide +kernel
theorem dL_hoursUntilUnlockedByDays_19 : decode cL_hoursUntilUnlockedByDays 19 = .ok (.ireturn, 1) := by decide +kernel
def f_L_hoursUntilUnlockedByDays (q : McV) (v : StV) (x : Int32) (ow : Nat → Int64) : Int32 × (Nat → Int64) := (if (f_X9_hoursUntilUnlockedByDays q v x).1 = "" then ((0 : Int32), (vp_updL ow (0 : Int32).toNatClampNeg (((f_X9_hoursUntilUnlockedByDays q v x).2).toInt64))) else (if (f_X9_hoursUntilUnlockedByDays q v x).1 = "java/lang/IndexOutOfBoundsException" then ((1 : Int32), ow) else (if (f_X9_hoursUntilUnlockedByDays q v x).1 = "java/util/NoSuchElementException" then ((2 : Int32), ow) else (0, ow))))
def ok_L_hoursUntilUnlockedByDays (q : McV) (v : StV) (x : Int32) (ow : Nat → Int64) : Prop := (if (f_X9_hoursUntilUnlockedByDays q v x).1 = "" then True else (if (f_X9_hoursUntilUnlockedByDays q v x).1 = "java/lang/IndexOutOfBoundsException" then True else (if (f_X9_hoursUntilUnlockedByDays q v x).1 = "java/util/NoSuchElementException" then True else False)))
set_option maxHeartbeats 8000000 in
set_option maxRecDepth 100000 in
set_option linter.constructorNameAsVariable false in
theorem c_L_hoursUntilUnlockedByDays (l : Launch) (hlf : l.stackTraces = false) (G : GG) (qh0 : Nat) (q_snapshot : Nat) (q_history : Nat) (q_program : Nat) (q_notice : Nat) (va : Nat → Nat) (owh : Nat) (sz : Nat) (q : McV) (v : StV) (x : Int32) (ow : Nat → Int64) (hok : ok_L_hoursUntilUnlockedByDays q v x ow) : wMetH l yL_hoursUntilUnlockedByDays cL_hoursUntilUnlockedByDays 4 (some .int) [(0, 9, 12, 21), (0, 9, 15, 33)] 10 2 12 G (fl [[(qh0, .inr (11, [.ref (va 0), .ref q_snapshot, .int q.1, .ref q_history, .ref q_program, .ref q_notice, .int q.2.1, .int q.2.2]))], wSt G va v, [(owh, .inl (G.2.1 3, 1, .inr (.inl ow)))]]) [.ref qh0, .int x, .ref owh] sz (fun u : Int32 × (Nat → Int64) => some (.int u.1)) (fun u : Int32 × (Nat → Int64) => u = f_L_hoursUntilUnlockedByDays q v x ow) (fun u : Int32 × (Nat → Int64) => fl [[(qh0, .inr (11, [.ref (va 0), .ref q_snapshot, .int q.1, .ref q_history, .ref q_program, .ref q_notice, .int q.2.1, .int q.2.2]))], wSt G va v, [(owh, .inl (G.2.1 3, 1, .inr (.inl u.2)))]]) := by
  refine w_startH (by decide +kernel) (Nat.le_of_ble_eq_true rfl) ?_
  intro p e s m below meth c A hx hb hr hml hts hown hlk hin hxt hP hD hA hK hST ls hl
  have hS : va_S A s.heap s.heap [] := va_S.rf
  have hown : s.vm.findClass RL = some m.cls := hown
  have hl : lv_has ls 4 [(0, .ref qh0), (1, .int x), (2, .ref owh)] := hl
  have hF : f_L_hoursUntilUnlockedByDays q v x ow = (if (f_X9_hoursUntilUnlockedByDays q v x).1 = "" then ((0 : Int32), (vp_updL ow (0 : Int32).toNatClampNeg (((f_X9_hoursUntilUnlockedByDays q v x).2).toInt64))) else (if (f_X9_hoursUntilUnlockedByDays q v x).1 = "java/lang/IndexOutOfBoundsException" then ((1 : Int32), ow) else (if (f_X9_hoursUntilUnlockedByDays q v x).1 = "java/util/NoSuchElementException" then ((2 : Int32), ow) else (0, ow)))) := rfl
  have hok : (if (f_X9_hoursUntilUnlockedByDays q v x).1 = "" then True else (if (f_X9_hoursUntilUnlockedByDays q v x).1 = "java/lang/IndexOutOfBoundsException" then True else (if (f_X9_hoursUntilUnlockedByDays q v x).1 = "java/util/NoSuchElementException" then True else False))) := hok
  refine lv_aload_n hx hb dL_hoursUntilUnlockedByDays_0 rfl (lv_at hl 2 rfl) ?_
  refine lv_iconst (v := (0 : Int32)) hx hb dL_hoursUntilUnlockedByDays_1 (by decide) ?_
  refine lv_aload_n hx hb dL_hoursUntilUnlockedByDays_2 rfl (lv_at hl 0 rfl) ?_
  refine lv_iload_n hx hb dL_hoursUntilUnlockedByDays_3 rfl (lv_at hl 1 rfl) ?_
  refine xr_V (own := RL) (v := (some (.int ((f_X9_hoursUntilUnlockedByDays q v x).2)))) (st1 := [.int ((f_X9_hoursUntilUnlockedByDays q v x).2), .int (0 : Int32), .ref owh]) (As := [.int x]) (rest := [.int (0 : Int32), .ref owh]) (c_X9_hoursUntilUnlockedByDaysS l hlf G qh0 q_snapshot q_history q_program q_notice va q v x) ⟨hx, hb, hml, hown, hts⟩ g_L_108 hdv_X9_hoursUntilUnlockedByDays hK hST hS hP [0, 1, 2, 3, 4, 5, 6, 7, 8, 9, 10, 11, 12, 13, 14, 15, 16, 17, 18, 19, 20] rfl (k0 := 0) rfl rfl rfl ⟨Nat.le_of_ble_eq_true rfl, Nat.le_of_ble_eq_true rfl⟩ ⟨Nat.le_of_ble_eq_true rfl, Nat.le_of_ble_eq_true rfl⟩ rfl hl.1 rfl (Nat.le_of_ble_eq_true rfl) dL_hoursUntilUnlockedByDays_4 rfl (fun E ce q9 H hE h1 h2 h3 h4 h5 => ?_) (fun b_1 => ?_)
  · have hF := hF.trans (if_neg (fun e => hE.2 (hE.1.trans e)))
    have hok := Eq.mp (if_neg (fun e => hE.2 (hE.1.trans e))) hok
    have hP := hP.kept (fun k q hk => h2 q.1 ((hP k q hk).lt))
    have hS : va_S A s.heap H _ := ⟨Nat.le_trans hS.1 h1, fun q hq hA => (h2 q (Nat.lt_of_lt_of_le hq hS.1)).trans (hS.2.1 q hq hA), hS.2.2⟩
    by_cases c_2 : (f_X9_hoursUntilUnlockedByDays q v x).1 = "java/lang/IndexOutOfBoundsException"
    · have hF := hF.trans (if_pos c_2)
      have hok := Eq.mp (if_pos c_2) hok
      have hEE : E = "java/lang/IndexOutOfBoundsException" := hE.1.trans c_2
      subst hEE
      refine vx_catch (own := RL) (name := "java/lang/IndexOutOfBoundsException") hown [] (⟨0, 9, 12, 21⟩ : ExceptionTableEntry) [(⟨0, 9, 15, 33⟩ : ExceptionTableEntry)] (hxt.trans rfl) (fun z hz => nomatch hz) (by decide) (by decide) (hts _ u_608) (va_tabs rfl rfl (hST.2.2.2.2.2.2.2.1 _ cst_IndexOutOfBoundsException)) h3 h4 h5 ?_
      refine W.eq (g2 := F0 m 12 ls [.ref q9]) rfl ?_
      refine lv_astore_n (lv' := [(3, .ref q9), (0, .ref qh0), (1, .int x), (2, .ref owh)]) hx hb dL_hoursUntilUnlockedByDays_12 rfl hl (by decide) rfl (fun ls hl => ?_)
      refine lv_iconst (v := (1 : Int32)) hx hb dL_hoursUntilUnlockedByDays_13 (by decide) ?_
      exact w_ret (u := ((1 : Int32), ow)) hx hb hr hlk rfl hS rfl hF.symm hP hD (Nat.le_of_ble_eq_true rfl) (Nat.le_of_ble_eq_true rfl) dL_hoursUntilUnlockedByDays_14
    · have hF := hF.trans (if_neg c_2)
      have hok := Eq.mp (if_neg c_2) hok
      by_cases c_3 : (f_X9_hoursUntilUnlockedByDays q v x).1 = "java/util/NoSuchElementException"
      · have hF := hF.trans (if_pos c_3)
        have hok := Eq.mp (if_pos c_3) hok
        have hEE : E = "java/util/NoSuchElementException" := hE.1.trans c_3
        subst hEE
        refine vx_catch (own := RL) (name := "java/util/NoSuchElementException") hown [(⟨0, 9, 12, 21⟩ : ExceptionTableEntry)] (⟨0, 9, 15, 33⟩ : ExceptionTableEntry) [] (hxt.trans rfl) (List.forall_mem_cons.mpr ⟨Or.inr ⟨by decide, "java/lang/IndexOutOfBoundsException", hts _ u_608, hST.2.2.2.2.2.2.2.2.1 ("java/util/NoSuchElementException", "java/lang/IndexOutOfBoundsException") (by decide +kernel)⟩, fun _ h => nomatch h⟩) (by decide) (by decide) (hts _ u_689) (va_tabs rfl rfl (hST.2.2.2.2.2.2.2.1 _ cst_NoSuchElementException)) h3 h4 h5 ?_
        refine W.eq (g2 := F0 m 15 ls [.ref q9]) rfl ?_
        refine lv_astore_n (lv' := [(3, .ref q9), (0, .ref qh0), (1, .int x), (2, .ref owh)]) hx hb dL_hoursUntilUnlockedByDays_15 rfl hl (by decide) rfl (fun ls hl => ?_)
        refine lv_iconst (v := (2 : Int32)) hx hb dL_hoursUntilUnlockedByDays_16 (by decide) ?_
        exact w_ret (u := ((2 : Int32), ow)) hx hb hr hlk rfl hS rfl hF.symm hP hD (Nat.le_of_ble_eq_true rfl) (Nat.le_of_ble_eq_true rfl) dL_hoursUntilUnlockedByDays_17
      · have hF := hF.trans (if_neg c_3)
        have hok := Eq.mp (if_neg c_3) hok
        exact hok.elim
  · have hE := b_1.1
    have b_1 := b_1.2
    have hF := hF.trans (if_pos hE)
    have hok := Eq.mp (if_pos hE) hok
    refine lv_i2l hx hb dL_hoursUntilUnlockedByDays_7 rfl ?_
    refine va_last hx hb hK hP hD hS 21 3 rfl rfl (vp_in_nI (n := 0) (by decide) (by decide)) dL_hoursUntilUnlockedByDays_8 (fun H locs hP hD hS => ?_)
    have hP : va_P G.1 vwCl (fl [[(qh0, .inr (11, [.ref (va 0), .ref q_snapshot, .int q.1, .ref q_history, .ref q_program, .ref q_notice, .int q.2.1, .int q.2.2]))], wSt G va v, [(owh, .inl (G.2.1 3, 1, .inr (.inl (vp_updL ow (0 : Int32).toNatClampNeg (((f_X9_hoursUntilUnlockedByDays q v x).2).toInt64)))))]]) H := hP
    have hD : va_D A (fl [[(qh0, .inr (11, [.ref (va 0), .ref q_snapshot, .int q.1, .ref q_history, .ref q_program, .ref q_notice, .int q.2.1, .int q.2.2]))], wSt G va v, [(owh, .inl (G.2.1 3, 1, .inr (.inl (vp_updL ow (0 : Int32).toNatClampNeg (((f_X9_hoursUntilUnlockedByDays q v x).2).toInt64)))))]]) := hD
    refine lv_goto (tgt := 18) hx hb dL_hoursUntilUnlockedByDays_9 (by decide) ?_
    refine lv_iconst (v := (0 : Int32)) hx hb dL_hoursUntilUnlockedByDays_18 (by decide) ?_
    exact w_ret (u := ((0 : Int32), (vp_updL ow (0 : Int32).toNatClampNeg (((f_X9_hoursUntilUnlockedByDays q v x).2).toInt64)))) hx hb hr hlk rfl hS rfl hF.symm hP hD (Nat.le_of_ble_eq_true rfl) (Nat.le_of_ble_eq_true rfl) dL_hoursUntilUnlockedByDays_19
theorem dL_unlockedHours_0 : decode cL_unlockedHours 0 = .ok (.aload_n 3, 1) := by decide +kernel
theorem dL_unlockedHours_1 : decode cL_unlockedHours 1 = .ok (.iconst 0, 1) := by decide +kernel
theorem dL_unlockedHours_2 : decode cL_unlockedHours 2 = .ok (.aload_n 0, 1) := by decide +kernel
theorem dL_unlockedHours_3 : decode cL_unlockedHours 3 = .ok (.iload_n 1, 1) := by decide +kernel
theorem dL_unlockedHours_4 : decode cL_unlockedHours 4 = .ok (.iload_n 2, 1) := by decide +kernel
theorem dL_unlockedHours_5 : decode cL_unlockedHours 5 = .ok (.invokevirtual 111, 3) := by decide +kernel
theorem u_1073 : Cond.methodLink RL 111 yX9_unlockedHours ∈ UW := uw 1073 (by decide +kernel) rfl
theorem u_1074 : Cond.instanceMethod yX9_unlockedHours ∈ UW := uw 1074 (by decide +kernel) rfl
theorem u_1075 : Cond.selects RX9 yX9_unlockedHours yX9_unlockedHours ∈ UW := uw 1075 (by decide +kernel) rfl
theorem u_1076 : Cond.code yX9_unlockedHours cX9_unlockedHours 3 (some .int) ∈ UW := uw 1076 (by decide +kernel) rfl
theorem g_L_111 : GoodIn UW (wsV RL 111 RX9 yX9_unlockedHours (wsU yX9_unlockedHours cX9_unlockedHours 3 (some .int))) := gV u_1073 u_1074 u_1075 u_65 u_1076
theorem hdv_X9_unlockedHours : yX9_unlockedHours.cls = RX9 ∧ yX9_unlockedHours.cls ≠ "java/lang/invoke/MethodHandle" ∧ yX9_unlockedHours.cls ≠ "java/lang/invoke/VarHandle" ∧ (parseMethodDescriptor yX9_unlockedHours.desc).map (fun d => d.parameters.length) = some 2 := by decide +kernel
theorem dL_unlockedHours_13 : decode cL_unlockedHours 13 = .ok (.astore 4, 2) := by decide +kernel
theorem dL_unlockedHours_15 : decode cL_unlockedHours 15 = .ok (.iconst 1, 1) := by decide +kernel
theorem dL_unlockedHours_16 : decode cL_unlockedHours 16 = .ok (.ireturn, 1) := by decide +kernel
theorem dL_unlockedHours_17 : decode cL_unlockedHours 17 = .ok (.astore 4, 2) := by decide +kernel
theorem dL_unlockedHours_19 : decode cL_unlockedHours 19 = .ok (.iconst 2, 1) := by decide +kernel
theorem dL_unlockedHours_20 : decode cL_unlockedHours 20 = .ok (.ireturn, 1) := by decide +kernel
theorem dL_unlockedHours_8 : decode cL_unlockedHours 8 = .ok (.i2l, 1) := by decide +kernel
theorem dL_unlockedHours_9 : decode cL_unlockedHours 9 = .ok (.lastore, 1) := by decide +kernel
theorem dL_unlockedHours_10 : decode cL_unlockedHours 10 = .ok (.goto 11, 3) := by decide +kernel
theorem dL_unlockedHours_21 : decode cL_unlockedHours 21 = .ok (.iconst 0, 1) := by decide +kernel
theorem dL_unlockedHours_22 : decode cL_unlockedHours 22 = .ok (.ireturn, 1) := by decide +kernel
def f_L_unlockedHours (q : McV) (v : StV) (x : Int32) (y : Int32) (ow : Nat → Int64) : Int32 × (Nat → Int64) := (if (f_X9_unlockedHours q v x y).1 = "" then ((0 : Int32), (vp_updL ow (0 : Int32).toNatClampNeg (((f_X9_unlockedHours q v x y).2).toInt64))) else (if (f_X9_unlockedHours q v x y).1 = "java/lang/IndexOutOfBoundsException" then ((1 : Int32), ow) else (if (f_X9_unlockedHours q v x y).1 = "java/lang/IllegalArgumentException" then ((2 : Int32), ow) else (0, ow))))
def ok_L_unlockedHours (q : McV) (v : StV) (x : Int32) (y : Int32) (ow : Nat → Int64) : Prop := (if (f_X9_unlockedHours q v x y).1 = "" then True else (if (f_X9_unlockedHours q v x y).1 = "java/lang/IndexOutOfBoundsException" then True else (if (f_X9_unlockedHours q v x y).1 = "java/lang/IllegalArgumentException" then True else False)))
set_option maxHeartbeats 8000000 in
set_option maxRecDepth 100000 in
set_option linter.constructorNameAsVariable false in
theorem c_L_unlockedHours (l : Launch) (hlf : l.stackTraces = false) (G : GG) (qh0 : Nat) (q_snapshot : Nat) (q_history : Nat) (q_program : Nat) (q_notice : Nat) (va : Nat → Nat) (owh : Nat) (sz : Nat) (q : McV) (v : StV) (x : Int32) (y : Int32) (ow : Nat → Int64) (hok : ok_L_unlockedHours q v x y ow) : wMetH l yL_unlockedHours cL_unlockedHours 5 (some .int) [(0, 10, 13, 21), (0, 10, 17, 13)] 10 2 12 G (fl [[(qh0, .inr (11, [.ref (va 0), .ref q_snapshot, .int q.1, .ref q_history, .ref q_program, .ref q_notice, .int q.2.1, .int q.2.2]))], wSt G va v, [(owh, .inl (G.2.1 3, 1, .inr (.inl ow)))]]) [.ref qh0, .int x, .int y, .ref owh] sz (fun u : Int32 × (Nat → Int64) => some (.int u.1)) (fun u : Int32 × (Nat → Int64) => u = f_L_unlockedHours q v x y ow) (fun u : Int32 × (Nat → Int64) => fl [[(qh0, .inr (11, [.ref (va 0), .ref q_snapshot, .int q.1, .ref q_history, .ref q_program, .ref q_notice, .int q.2.1, .int q.2.2]))], wSt G va v, [(owh, .inl (G.2.1 3, 1, .inr (.inl u.2)))]]) := by
  refine w_startH (by decide +kernel) (Nat.le_of_ble_eq_true rfl) ?_
  intro p e s m below meth c A hx hb hr hml hts hown hlk hin hxt hP hD hA hK hST ls hl
  have hS : va_S A s.heap s.heap [] := va_S.rf
  have hown : s.vm.findClass RL = some m.cls := hown
  have hl : lv_has ls 5 [(0, .ref qh0), (1, .int x), (2, .int y), (3, .ref owh)] := hl
  have hF : f_L_unlockedHours q v x y ow = (if (f_X9_unlockedHours q v x y).1 = "" then ((0 : Int32), (vp_updL ow (0 : Int32).toNatClampNeg (((f_X9_unlockedHours q v x y).2).toInt64))) else (if (f_X9_unlockedHours q v x y).1 = "java/lang/IndexOutOfBoundsException" then ((1 : Int32), ow) else (if (f_X9_unlockedHours q v x y).1 = "java/lang/IllegalArgumentException" then ((2 : Int32), ow) else (0, ow)))) := rfl
  have hok : (if (f_X9_unlockedHours q v x y).1 = "" then True else (if (f_X9_unlockedHours q v x y).1 = "java/lang/IndexOutOfBoundsException" then True else (if (f_X9_unlockedHours q v x y).1 = "java/lang/IllegalArgumentException" then True else False))) := hok
  refine lv_aload_n hx hb dL_unlockedHours_0 rfl (lv_at hl 3 rfl) ?_
  refine lv_iconst (v := (0 : Int32)) hx hb dL_unlockedHours_1 (by decide) ?_
  refine lv_aload_n hx hb dL_unlockedHours_2 rfl (lv_at hl 0 rfl) ?_
  refine lv_iload_n hx hb dL_unlockedHours_3 rfl (lv_at hl 1 rfl) ?_
  refine lv_iload_n hx hb dL_unlockedHours_4 rfl (lv_at hl 2 rfl) ?_
  refine xr_V (own := RL) (v := (some (.int ((f_X9_unlockedHours q v x y).2)))) (st1 := [.int ((f_X9_unlockedHours q v x y).2), .int (0 : Int32), .ref owh]) (As := [.int x, .int y]) (rest := [.int (0 : Int32), .ref owh]) (c_X9_unlockedHoursS l hlf G qh0 q_snapshot q_history q_program q_notice va q v x y) ⟨hx, hb, hml, hown, hts⟩ g_L_111 hdv_X9_unlockedHours hK hST hS hP [0, 1, 2, 3, 4, 5, 6, 7, 8, 9, 10, 11, 12, 13, 14, 15, 16, 17, 18, 19, 20] rfl (k0 := 0) rfl rfl rfl ⟨Nat.le_of_ble_eq_true rfl, Nat.le_of_ble_eq_true rfl⟩ ⟨Nat.le_of_ble_eq_true rfl, Nat.le_of_ble_eq_true rfl⟩ rfl hl.1 rfl (Nat.le_of_ble_eq_true rfl) dL_unlockedHours_5 rfl (fun E ce q9 H hE h1 h2 h3 h4 h5 => ?_) (fun b_1 => ?_)
  · have hF := hF.trans (if_neg (fun e => hE.2 (hE.1.trans e)))
    have hok := Eq.mp (if_neg (fun e => hE.2 (hE.1.trans e))) hok
    have hP := hP.kept (fun k q hk => h2 q.1 ((hP k q hk).lt))
    have hS : va_S A s.heap H _ := ⟨Nat.le_trans hS.1 h1, fun q hq hA => (h2 q (Nat.lt_of_lt_of_le hq hS.1)).trans (hS.2.1 q hq hA), hS.2.2⟩
    by_cases c_2 : (f_X9_unlockedHours q v x y).1 = "java/lang/IndexOutOfBoundsException"
    · have hF := hF.trans (if_pos c_2)
      have hok := Eq.mp (if_pos c_2) hok
      have hEE : E = "java/lang/IndexOutOfBoundsException" := hE.1.trans c_2
      subst hEE
      refine vx_catch (own := RL) (name := "java/lang/IndexOutOfBoundsException") hown [] (⟨0, 10, 13, 21⟩ : ExceptionTableEntry) [(⟨0, 10, 17, 13⟩ : ExceptionTableEntry)] (hxt.trans rfl) (fun z hz => nomatch hz) (by decide) (by decide) (hts _ u_608) (va_tabs rfl rfl (hST.2.2.2.2.2.2.2.1 _ cst_IndexOutOfBoundsException)) h3 h4 h5 ?_
      refine W.eq (g2 := F0 m 13 ls [.ref q9]) rfl ?_
      refine lv_astore (lv' := [(4, .ref q9), (0, .ref qh0), (1, .int x), (2, .int y), (3, .ref owh)]) hx hb dL_unlockedHours_13 hl (by decide) rfl (fun ls hl => ?_)
      refine lv_iconst (v := (1 : Int32)) hx hb dL_unlockedHours_15 (by decide) ?_
      exact w_ret (u := ((1 : Int32), ow)) hx hb hr hlk rfl hS rfl hF.symm hP hD (Nat.le_of_ble_eq_true rfl) (Nat.le_of_ble_eq_true rfl) dL_unlockedHours_16
    · have hF := hF.trans (if_neg c_2)
      have hok := Eq.mp (if_neg c_2) hok
      by_cases c_3 : (f_X9_unlockedHours q v x y).1 = "java/lang/IllegalArgumentException"
      · have hF := hF.trans (if_pos c_3)
        have hok := Eq.mp (if_pos c_3) hok
        have hEE : E = "java/lang/IllegalArgumentException" := hE.1.trans c_3
        subst hEE
        refine vx_catch (own := RL) (name := "java/lang/IllegalArgumentException") hown [(⟨0, 10, 13, 21⟩ : ExceptionTableEntry)] (⟨0, 10, 17, 13⟩ : ExceptionTableEntry) [] (hxt.trans rfl) (List.forall_mem_cons.mpr ⟨Or.inr ⟨by decide, "java/lang/IndexOutOfBoundsException", hts _ u_608, hST.2.2.2.2.2.2.2.2.1 ("java/lang/IllegalArgumentException", "java/lang/IndexOutOfBoundsException") (by decide +kernel)⟩, fun _ h => nomatch h⟩) (by decide) (by decide) (hts _ u_403) (va_tabs rfl rfl (hST.2.2.2.2.2.2.2.1 _ cst_IllegalArgumentException)) h3 h4 h5 ?_
        refine W.eq (g2 := F0 m 17 ls [.ref q9]) rfl ?_
        refine lv_astore (lv' := [(4, .ref q9), (0, .ref qh0), (1, .int x), (2, .int y), (3, .ref owh)]) hx hb dL_unlockedHours_17 hl (by decide) rfl (fun ls hl => ?_)
        refine lv_iconst (v := (2 : Int32)) hx hb dL_unlockedHours_19 (by decide) ?_
        exact w_ret (u := ((2 : Int32), ow)) hx hb hr hlk rfl hS rfl hF.symm hP hD (Nat.le_of_ble_eq_true rfl) (Nat.le_of_ble_eq_true rfl) dL_unlockedHours_20
      · have hF := hF.trans (if_neg c_3)
        have hok := Eq.mp (if_neg c_3) hok
        exact hok.elim
  · have hE := b_1.1
    have b_1 := b_1.2
    have hF := hF.trans (if_pos hE)
    have hok := Eq.mp (if_pos hE) hok
    refine lv_i2l hx hb dL_unlockedHours_8 rfl ?_
    refine va_last hx hb hK hP hD hS 21 3 rfl rfl (vp_in_nI (n := 0) (by decide) (by decide)) dL_unlockedHours_9 (fun H locs hP hD hS => ?_)
    have hP : va_P G.1 vwCl (fl [[(qh0, .inr (11, [.ref (va 0), .ref q_snapshot, .int q.1, .ref q_history, .ref q_program, .ref q_notice, .int q.2.1, .int q.2.2]))], wSt G va v, [(owh, .inl (G.2.1 3, 1, .inr (.inl (vp_updL ow (0 : Int32).toNatClampNeg (((f_X9_unlockedHours q v x y).2).toInt64)))))]]) H := hP
    have hD : va_D A (fl [[(qh0, .inr (11, [.ref (va 0), .ref q_snapshot, .int q.1, .ref q_history, .ref q_program, .ref q_notice, .int q.2.1, .int q.2.2]))], wSt G va v, [(owh, .inl (G.2.1 3, 1, .inr (.inl (vp_updL ow (0 : Int32).toNatClampNeg (((f_X9_unlockedHours q v x y).2).toInt64)))))]]) := hD
    refine lv_goto (tgt := 21) hx hb dL_unlockedHours_10 (by decide) ?_
    refine lv_iconst (v := (0 : Int32)) hx hb dL_unlockedHours_21 (by decide) ?_
    exact w_ret (u := ((0 : Int32), (vp_updL ow (0 : Int32).toNatClampNeg (((f_X9_unlockedHours q v x y).2).toInt64)))) hx hb hr hlk rfl hS rfl hF.symm hP hD (Nat.le_of_ble_eq_true rfl) (Nat.le_of_ble_eq_true rfl) dL_unlockedHours_22
theorem dL_openDoorsFor_0 : decode cL_openDoorsFor 0 = .ok (.aload_n 2, 1) := by decide +kernel
theorem dL_openDoorsFor_1 : decode cL_openDoorsFor 1 = .ok (.iconst 0, 1) := by decide +kernel
theorem dL_openDoorsFor_2 : decode cL_openDoorsFor 2 = .ok (.aload_n 0, 1) := by decide +kernel
theorem dL_openDoorsFor_3 : decode cL_openDoorsFor 3 = .ok (.iload_n 1, 1) := by decide +kernel
theorem dL_openDoorsFor_4 : decode cL_openDoorsFor 4 = .ok (.invokevirtual 114, 3) := by decide +kernel
theorem u_1089 : Cond.methodLink RL 114 yX9_openDoorsFor ∈ UW := uw 1089 (by decide +kernel) rfl
theorem u_1090 : Cond.instanceMethod yX9_openDoorsFor ∈ UW := uw 1090 (by decide +kernel) rfl
theorem u_1091 : Cond.selects RX9 yX9_openDoorsFor yX9_openDoorsFor ∈ UW := uw 1091 (by decide +kernel) rfl
theorem u_1092 : Cond.code yX9_openDoorsFor cX9_openDoorsFor 2 (some .int) ∈ UW := uw 1092 (by decide +kernel) rfl
theorem g_L_114 : GoodIn UW (wsV RL 114 RX9 yX9_openDoorsFor (wsU yX9_openDoorsFor cX9_openDoorsFor 2 (some .int))) := gV u_1089 u_1090 u_1091 u_65 u_1092
theorem hdv_X9_openDoorsFor : yX9_openDoorsFor.cls = RX9 ∧ yX9_openDoorsFor.cls ≠ "java/lang/invoke/MethodHandle" ∧ yX9_openDoorsFor.cls ≠ "java/lang/invoke/VarHandle" ∧ (parseMethodDescriptor yX9_openDoorsFor.desc).map (fun d => d.parameters.length) = some 1 := by decide +kernel
theorem dL_openDoorsFor_12 : decode cL_openDoorsFor 12 = .ok (.astore_n 3, 1) := by decide +kernel
theorem dL_openDoorsFor_13 : decode cL_openDoorsFor 13 = .ok (.iconst 1, 1) := by decide +kernel
theorem dL_openDoorsFor_14 : decode cL_openDoorsFor 14 = .ok (.ireturn, 1) := by decide +kernel
theorem dL_openDoorsFor_7 : decode cL_openDoorsFor 7 = .ok (.i2l, 1) := by decide +kernel
theorem dL_openDoorsFor_8 : decode cL_openDoorsFor 8 = .ok (.lastore, 1) := by decide +kernel
theorem dL_openDoorsFor_9 : decode cL_openDoorsFor 9 = .ok (.goto 6, 3) := by decide +kernel
theorem dL_openDoorsFor_15 : decode cL_openDoorsFor 15 = .ok (.iconst 0, 1) := by decide +kernel
theorem dL_openDoorsFor_16 : decode cL_openDoorsFor 16 = .ok (.ireturn, 1) := by decide +kernel
def f_L_openDoorsFor (q : McV) (v : StV) (x : Int32) (ow : Nat → Int64) : Int32 × (Nat → Int64) := (if (f_X9_openDoorsFor q v x).1 = "" then ((0 : Int32), (vp_updL ow (0 : Int32).toNatClampNeg (((f_X9_openDoorsFor q v x).2).toInt64))) else (if (f_X9_openDoorsFor q v x).1 = "java/lang/IndexOutOfBoundsException" then ((1 : Int32), ow) else (0, ow)))
def ok_L_openDoorsFor (q : McV) (v : StV) (x : Int32) (ow : Nat → Int64) : Prop := (if (f_X9_openDoorsFor q v x).1 = "" then True else (if (f_X9_openDoorsFor q v x).1 = "java/lang/IndexOutOfBoundsException" then True else False))
set_option maxHeartbeats 8000000 in
set_option maxRecDepth 100000 in
set_option linter.constructorNameAsVariable false in
theorem c_L_openDoorsFor (l : Launch) (hlf : l.stackTraces = false) (G : GG) (qh0 : Nat) (q_snapshot : Nat) (q_history : Nat) (q_program : Nat) (q_notice : Nat) (va : Nat → Nat) (owh : Nat) (sz : Nat) (q : McV) (v : StV) (x : Int32) (ow : Nat → Int64) (hok : ok_L_openDoorsFor q v x ow) : wMetH l yL_openDoorsFor cL_openDoorsFor 4 (some .int) [(0, 9, 12, 21)] 10 1 6 G (fl [[(qh0, .inr (11, [.ref (va 0), .ref q_snapshot, .int q.1, .ref q_history, .ref q_program, .ref q_notice, .int q.2.1, .int q.2.2]))], wSt G va v, [(owh, .inl (G.2.1 3, 1, .inr (.inl ow)))]]) [.ref qh0, .int x, .ref owh] sz (fun u : Int32 × (Nat → Int64) => some (.int u.1)) (fun u : Int32 × (Nat → Int64) => u = f_L_openDoorsFor q v x ow) (fun u : Int32 × (Nat → Int64) => fl [[(qh0, .inr (11, [.ref (va 0), .ref q_snapshot, .int q.1, .ref q_history, .ref q_program, .ref q_notice, .int q.2.1, .int q.2.2]))], wSt G va v, [(owh, .inl (G.2.1 3, 1, .inr (.inl u.2)))]]) := by
  refine w_startH (by decide +kernel) (Nat.le_of_ble_eq_true rfl) ?_
  intro p e s m below meth c A hx hb hr hml hts hown hlk hin hxt hP hD hA hK hST ls hl
  have hS : va_S A s.heap s.heap [] := va_S.rf
  have hown : s.vm.findClass RL = some m.cls := hown
  have hl : lv_has ls 4 [(0, .ref qh0), (1, .int x), (2, .ref owh)] := hl
  have hF : f_L_openDoorsFor q v x ow = (if (f_X9_openDoorsFor q v x).1 = "" then ((0 : Int32), (vp_updL ow (0 : Int32).toNatClampNeg (((f_X9_openDoorsFor q v x).2).toInt64))) else (if (f_X9_openDoorsFor q v x).1 = "java/lang/IndexOutOfBoundsException" then ((1 : Int32), ow) else (0, ow))) := rfl
  have hok : (if (f_X9_openDoorsFor q v x).1 = "" then True else (if (f_X9_openDoorsFor q v x).1 = "java/lang/IndexOutOfBoundsException" then True else False)) := hok
  refine lv_aload_n hx hb dL_openDoorsFor_0 rfl (lv_at hl 2 rfl) ?_
  refine lv_iconst (v := (0 : Int32)) hx hb dL_openDoorsFor_1 (by decide) ?_
  refine lv_aload_n hx hb dL_openDoorsFor_2 rfl (lv_at hl 0 rfl) ?_
  refine lv_iload_n hx hb dL_openDoorsFor_3 rfl (lv_at hl 1 rfl) ?_
  refine xr_V (own := RL) (v := (some (.int ((f_X9_openDoorsFor q v x).2)))) (st1 := [.int ((f_X9_openDoorsFor q v x).2), .int (0 : Int32), .ref owh]) (As := [.int x]) (rest := [.int (0 : Int32), .ref owh]) (c_X9_openDoorsForS l hlf G qh0 q_snapshot q_history q_program q_notice va q v x) ⟨hx, hb, hml, hown, hts⟩ g_L_114 hdv_X9_openDoorsFor hK hST hS hP [0, 1, 2, 3, 4, 5, 6, 7, 8, 9, 10, 11, 12, 13, 14, 15, 16, 17, 18, 19, 20] rfl (k0 := 0) rfl rfl rfl ⟨Nat.le_of_ble_eq_true rfl, Nat.le_of_ble_eq_true rfl⟩ ⟨Nat.le_of_ble_eq_true rfl, Nat.le_of_ble_eq_true rfl⟩ rfl hl.1 rfl (Nat.le_of_ble_eq_true rfl) dL_openDoorsFor_4 rfl (fun E ce q9 H hE h1 h2 h3 h4 h5 => ?_) (fun b_1 => ?_)
  · have hF := hF.trans (if_neg (fun e => hE.2 (hE.1.trans e)))
    have hok := Eq.mp (if_neg (fun e => hE.2 (hE.1.trans e))) hok
    have hP := hP.kept (fun k q hk => h2 q.1 ((hP k q hk).lt))
    have hS : va_S A s.heap H _ := ⟨Nat.le_trans hS.1 h1, fun q hq hA => (h2 q (Nat.lt_of_lt_of_le hq hS.1)).trans (hS.2.1 q hq hA), hS.2.2⟩
    by_cases c_2 : (f_X9_openDoorsFor q v x).1 = "java/lang/IndexOutOfBoundsException"
    · have hF := hF.trans (if_pos c_2)
      have hok := Eq.mp (if_pos c_2) hok
      have hEE : E = "java/lang/IndexOutOfBoundsException" := hE.1.trans c_2
      subst hEE
      refine vx_catch (own := RL) (name := "java/lang/IndexOutOfBoundsException") hown [] (⟨0, 9, 12, 21⟩ : ExceptionTableEntry) [] (hxt.trans rfl) (fun z hz => nomatch hz) (by decide) (by decide) (hts _ u_608) (va_tabs rfl rfl (hST.2.2.2.2.2.2.2.1 _ cst_IndexOutOfBoundsException)) h3 h4 h5 ?_
      refine W.eq (g2 := F0 m 12 ls [.ref q9]) rfl ?_
      refine lv_astore_n (lv' := [(3, .ref q9), (0, .ref qh0), (1, .int x), (2, .ref owh)]) hx hb dL_openDoorsFor_12 rfl hl (by decide) rfl (fun ls hl => ?_)
      refine lv_iconst (v := (1 : Int32)) hx hb dL_openDoorsFor_13 (by decide) ?_
      exact w_ret (u := ((1 : Int32), ow)) hx hb hr hlk rfl hS rfl hF.symm hP hD (Nat.le_of_ble_eq_true rfl) (Nat.le_of_ble_eq_true rfl) dL_openDoorsFor_14
    · have hF := hF.trans (if_neg c_2)
      have hok := Eq.mp (if_neg c_2) hok
      exact hok.elim
  · have hE := b_1.1
    have b_1 := b_1.2
    have hF := hF.trans (if_pos hE)
    have hok := Eq.mp (if_pos hE) hok
    refine lv_i2l hx hb dL_openDoorsFor_7 rfl ?_
    refine va_last hx hb hK hP hD hS 21 3 rfl rfl (vp_in_nI (n := 0) (by decide) (by decide)) dL_openDoorsFor_8 (fun H locs hP hD hS => ?_)
    have hP : va_P G.1 vwCl (fl [[(qh0, .inr (11, [.ref (va 0), .ref q_snapshot, .int q.1, .ref q_history, .ref q_program, .ref q_notice, .int q.2.1, .int q.2.2]))], wSt G va v, [(owh, .inl (G.2.1 3, 1, .inr (.inl (vp_updL ow (0 : Int32).toNatClampNeg (((f_X9_openDoorsFor q v x).2).toInt64)))))]]) H := hP
    have hD : va_D A (fl [[(qh0, .inr (11, [.ref (va 0), .ref q_snapshot, .int q.1, .ref q_history, .ref q_program, .ref q_notice, .int q.2.1, .int q.2.2]))], wSt G va v, [(owh, .inl (G.2.1 3, 1, .inr (.inl (vp_updL ow (0 : Int32).toNatClampNeg (((f_X9_openDoorsFor q v x).2).toInt64)))))]]) := hD
    refine lv_goto (tgt := 15) hx hb dL_openDoorsFor_9 (by decide) ?_
    refine lv_iconst (v := (0 : Int32)) hx hb dL_openDoorsFor_15 (by decide) ?_
    exact w_ret (u := ((0 : Int32), (vp_updL ow (0 : Int32).toNatClampNeg (((f_X9_openDoorsFor q v x).2).toInt64)))) hx hb hr hlk rfl hS rfl hF.symm hP hD (Nat.le_of_ble_eq_true rfl) (Nat.le_of_ble_eq_true rfl) dL_openDoorsFor_16
theorem dL_entriesOn_0 : decode cL_entriesOn 0 = .ok (.aload_n 3, 1) := by decide +kernel
theorem dL_entriesOn_1 : decode cL_entriesOn 1 = .ok (.iconst 0, 1) := by decide +kernel
theorem dL_entriesOn_2 : decode cL_entriesOn 2 = .ok (.aload_n 0, 1) := by decide +kernel
theorem dL_entriesOn_3 : decode cL_entriesOn 3 = .ok (.iload_n 1, 1) := by decide +kernel
theorem dL_entriesOn_4 : decode cL_entriesOn 4 = .ok (.iload_n 2, 1) := by decide +kernel
theorem dL_entriesOn_5 : decode cL_entriesOn 5 = .ok (.invokevirtual 117, 3) := by decide +kernel
theorem u_1100 : Cond.methodLink RL 117 yX9_entriesOn ∈ UW := uw 1100 (by decide +kernel) rfl
theorem u_1101 : Cond.instanceMethod yX9_entriesOn ∈ UW := uw 1101 (by decide +kernel) rfl
theorem u_1102 : Cond.selects RX9 yX9_entriesOn yX9_entriesOn ∈ UW := uw 1102 (by decide +kernel) rfl
theorem u_1103 : Cond.code yX9_entriesOn cX9_entriesOn 3 (some .int) ∈ UW := uw 1103 (by decide +kernel) rfl
theorem g_L_117 : GoodIn UW (wsV RL 117 RX9 yX9_entriesOn (wsU yX9_entriesOn cX9_entriesOn 3 (some .int))) := gV u_1100 u_1101 u_1102 u_65 u_1103
theorem hdv_X9_entriesOn : yX9_entriesOn.cls = RX9 ∧ yX9_entriesOn.cls ≠ "java/lang/invoke/MethodHandle" ∧ yX9_entriesOn.cls ≠ "java/lang/invoke/VarHandle" ∧ (parseMethodDescriptor yX9_entriesOn.desc).map (fun d => d.parameters.length) = some 2 := by decide +kernel
theorem dL_entriesOn_13 : decode cL_entriesOn 13 = .ok (.astore 4, 2) := by decide +kernel
theorem dL_entriesOn_15 : decode cL_entriesOn 15 = .ok (.iconst 1, 1) := by decide +kernel
theorem dL_entriesOn_16 : decode cL_entriesOn 16 = .ok (.ireturn, 1) := by decide +kernel
theorem dL_entriesOn_17 : decode cL_entriesOn 17 = .ok (.astore 4, 2) := by decide +kernel
theorem dL_entriesOn_19 : decode cL_entriesOn 19 = .ok (.iconst 2, 1) := by decide +kernel
theorem dL_entriesOn_20 : decode cL_entriesOn 20 = .ok (.ireturn, 1) := by decide +kernel
theorem dL_entriesOn_8 : decode cL_entriesOn 8 = .ok (.i2l, 1) := by decide +kernel
theorem dL_entriesOn_9 : decode cL_entriesOn 9 = .ok (.lastore, 1) := by decide +kernel
theorem dL_entriesOn_10 : decode cL_entriesOn 10 = .ok (.goto 11, 3) := by decide +kernel
theorem dL_entriesOn_21 : decode cL_entriesOn 21 = .ok (.iconst 0, 1) := by decide +kernel
theorem dL_entriesOn_22 : decode cL_entriesOn 22 = .ok (.ireturn, 1) := by decide +kernel
def f_L_entriesOn (q : McV) (v : StV) (x : Int32) (y : Int32) (ow : Nat → Int64) : Int32 × (Nat → Int64) := (if (f_X9_entriesOn q v x y).1 = "" then ((0 : Int32), (vp_updL ow (0 : Int32).toNatClampNeg (((f_X9_entriesOn q v x y).2).toInt64))) else (if (f_X9_entriesOn q v x y).1 = "java/lang/IndexOutOfBoundsException" then ((1 : Int32), ow) else (if (f_X9_entriesOn q v x y).1 = "java/lang/IllegalArgumentException" then ((2 : Int32), ow) else (0, ow))))
def ok_L_entriesOn (q : McV) (v : StV) (x : Int32) (y : Int32) (ow : Nat → Int64) : Prop := (if (f_X9_entriesOn q v x y).1 = "" then True else (if (f_X9_entriesOn q v x y).1 = "java/lang/IndexOutOfBoundsException" then True else (if (f_X9_entriesOn q v x y).1 = "java/lang/IllegalArgumentException" then True else False)))
set_option maxHeartbeats 8000000 in
set_option maxRecDepth 100000 in
set_option linter.constructorNameAsVariable false in
theorem c_L_entriesOn (l : Launch) (hlf : l.stackTraces = false) (G : GG) (qh0 : Nat) (q_snapshot : Nat) (q_history : Nat) (q_program : Nat) (q_notice : Nat) (va : Nat → Nat) (owh : Nat) (sz : Nat) (q : McV) (v : StV) (x : Int32) (y : Int32) (ow : Nat → Int64) (hok : ok_L_entriesOn q v x y ow) : wMetH l yL_entriesOn cL_entriesOn 5 (some .int) [(0, 10, 13, 21), (0, 10, 17, 13)] 10 2 12 G (fl [[(qh0, .inr (11, [.ref (va 0), .ref q_snapshot, .int q.1, .ref q_history, .ref q_program, .ref q_notice, .int q.2.1, .int q.2.2]))], wSt G va v, [(owh, .inl (G.2.1 3, 1, .inr (.inl ow)))]]) [.ref qh0, .int x, .int y, .ref owh] sz (fun u : Int32 × (Nat → Int64) => some (.int u.1)) (fun u : Int32 × (Nat → Int64) => u = f_L_entriesOn q v x y ow) (fun u : Int32 × (Nat → Int64) => fl [[(qh0, .inr (11, [.ref (va 0), .ref q_snapshot, .int q.1, .ref q_history, .ref q_program, .ref q_notice, .int q.2.1, .int q.2.2]))], wSt G va v, [(owh, .inl (G.2.1 3, 1, .inr (.inl u.2)))]]) := by
  refine w_startH (by decide +kernel) (Nat.le_of_ble_eq_true rfl) ?_
  intro p e s m below meth c A hx hb hr hml hts hown hlk hin hxt hP hD hA hK hST ls hl
  have hS : va_S A s.heap s.heap [] := va_S.rf
  have hown : s.vm.findClass RL = some m.cls := hown
  have hl : lv_has ls 5 [(0, .ref qh0), (1, .int x), (2, .int y), (3, .ref owh)] := hl
  have hF : f_L_entriesOn q v x y ow = (if (f_X9_entriesOn q v x y).1 = "" then ((0 : Int32), (vp_updL ow (0 : Int32).toNatClampNeg (((f_X9_entriesOn q v x y).2).toInt64))) else (if (f_X9_entriesOn q v x y).1 = "java/lang/IndexOutOfBoundsException" then ((1 : Int32), ow) else (if (f_X9_entriesOn q v x y).1 = "java/lang/IllegalArgumentException" then ((2 : Int32), ow) else (0, ow)))) := rfl
  have hok : (if (f_X9_entriesOn q v x y).1 = "" then True else (if (f_X9_entriesOn q v x y).1 = "java/lang/IndexOutOfBoundsException" then True else (if (f_X9_entriesOn q v x y).1 = "java/lang/IllegalArgumentException" then True else False))) := hok
  refine lv_aload_n hx hb dL_entriesOn_0 rfl (lv_at hl 3 rfl) ?_
  refine lv_iconst (v := (0 : Int32)) hx hb dL_entriesOn_1 (by decide) ?_
  refine lv_aload_n hx hb dL_entriesOn_2 rfl (lv_at hl 0 rfl) ?_
  refine lv_iload_n hx hb dL_entriesOn_3 rfl (lv_at hl 1 rfl) ?_
  refine lv_iload_n hx hb dL_entriesOn_4 rfl (lv_at hl 2 rfl) ?_
  refine xr_V (own := RL) (v := (some (.int ((f_X9_entriesOn q v x y).2)))) (st1 := [.int ((f_X9_entriesOn q v x y).2), .int (0 : Int32), .ref owh]) (As := [.int x, .int y]) (rest := [.int (0 : Int32), .ref owh]) (c_X9_entriesOnS l hlf G qh0 q_snapshot q_history q_program q_notice va q v x y) ⟨hx, hb, hml, hown, hts⟩ g_L_117 hdv_X9_entriesOn hK hST hS hP [0, 1, 2, 3, 4, 5, 6, 7, 8, 9, 10, 11, 12, 13, 14, 15, 16, 17, 18, 19, 20] rfl (k0 := 0) rfl rfl rfl ⟨Nat.le_of_ble_eq_true rfl, Nat.le_of_ble_eq_true rfl⟩ ⟨Nat.le_of_ble_eq_true rfl, Nat.le_of_ble_eq_true rfl⟩ rfl hl.1 rfl (Nat.le_of_ble_eq_true rfl) dL_entriesOn_5 rfl (fun E ce q9 H hE h1 h2 h3 h4 h5 => ?_) (fun b_1 => ?_)
  · have hF := hF.trans (if_neg (fun e => hE.2 (hE.1.trans e)))
    have hok := Eq.mp (if_neg (fun e => hE.2 (hE.1.trans e))) hok
    have hP := hP.kept (fun k q hk => h2 q.1 ((hP k q hk).lt))
    have hS : va_S A s.heap H _ := ⟨Nat.le_trans hS.1 h1, fun q hq hA => (h2 q (Nat.lt_of_lt_of_le hq hS.1)).trans (hS.2.1 q hq hA), hS.2.2⟩
    by_cases c_2 : (f_X9_entriesOn q v x y).1 = "java/lang/IndexOutOfBoundsException"
    · have hF := hF.trans (if_pos c_2)
      have hok := Eq.mp (if_pos c_2) hok
      have hEE : E = "java/lang/IndexOutOfBoundsException" := hE.1.trans c_2
      subst hEE
      refine vx_catch (own := RL) (name := "java/lang/IndexOutOfBoundsException") hown [] (⟨0, 10, 13, 21⟩ : ExceptionTableEntry) [(⟨0, 10, 17, 13⟩ : ExceptionTableEntry)] (hxt.trans rfl) (fun z hz => nomatch hz) (by decide) (by decide) (hts _ u_608) (va_tabs rfl rfl (hST.2.2.2.2.2.2.2.1 _ cst_IndexOutOfBoundsException)) h3 h4 h5 ?_
      refine W.eq (g2 := F0 m 13 ls [.ref q9]) rfl ?_
      refine lv_astore (lv' := [(4, .ref q9), (0, .ref qh0), (1, .int x), (2, .int y), (3, .ref owh)]) hx hb dL_entriesOn_13 hl (by decide) rfl (fun ls hl => ?_)
      refine lv_iconst (v := (1 : Int32)) hx hb dL_entriesOn_15 (by decide) ?_
      exact w_ret (u := ((1 : Int32), ow)) hx hb hr hlk rfl hS rfl hF.symm hP hD (Nat.le_of_ble_eq_true rfl) (Nat.le_of_ble_eq_true rfl) dL_entriesOn_16
    · have hF := hF.trans (if_neg c_2)
      have hok := Eq.mp (if_neg c_2) hok
      by_cases c_3 : (f_X9_entriesOn q v x y).1 = "java/lang/IllegalArgumentException"
      · have hF := hF.trans (if_pos c_3)
        have hok := Eq.mp (if_pos c_3) hok
        have hEE : E = "java/lang/IllegalArgumentException" := hE.1.trans c_3
        subst hEE
        refine vx_catch (own := RL) (name := "java/lang/IllegalArgumentException") hown [(⟨0, 10, 13, 21⟩ : ExceptionTableEntry)] (⟨0, 10, 17, 13⟩ : ExceptionTableEntry) [] (hxt.trans rfl) (List.forall_mem_cons.mpr ⟨Or.inr ⟨by decide, "java/lang/IndexOutOfBoundsException", hts _ u_608, hST.2.2.2.2.2.2.2.2.1 ("java/lang/IllegalArgumentException", "java/lang/IndexOutOfBoundsException") (by decide +kernel)⟩, fun _ h => nomatch h⟩) (by decide) (by decide) (hts _ u_403) (va_tabs rfl rfl (hST.2.2.2.2.2.2.2.1 _ cst_IllegalArgumentException)) h3 h4 h5 ?_
        refine W.eq (g2 := F0 m 17 ls [.ref q9]) rfl ?_
        refine lv_astore (lv' := [(4, .ref q9), (0, .ref qh0), (1, .int x), (2, .int y), (3, .ref owh)]) hx hb dL_entriesOn_17 hl (by decide) rfl (fun ls hl => ?_)
        refine lv_iconst (v := (2 : Int32)) hx hb dL_entriesOn_19 (by decide) ?_
        exact w_ret (u := ((2 : Int32), ow)) hx hb hr hlk rfl hS rfl hF.symm hP hD (Nat.le_of_ble_eq_true rfl) (Nat.le_of_ble_eq_true rfl) dL_entriesOn_20
      · have hF := hF.trans (if_neg c_3)
        have hok := Eq.mp (if_neg c_3) hok
        exact hok.elim
  · have hE := b_1.1
    have b_1 := b_1.2
    have hF := hF.trans (if_pos hE)
    have hok := Eq.mp (if_pos hE) hok
    refine lv_i2l hx hb dL_entriesOn_8 rfl ?_
    refine va_last hx hb hK hP hD hS 21 3 rfl rfl (vp_in_nI (n := 0) (by decide) (by decide)) dL_entriesOn_9 (fun H locs hP hD hS => ?_)
    have hP : va_P G.1 vwCl (fl [[(qh0, .inr (11, [.ref (va 0), .ref q_snapshot, .int q.1, .ref q_history, .ref q_program, .ref q_notice, .int q.2.1, .int q.2.2]))], wSt G va v, [(owh, .inl (G.2.1 3, 1, .inr (.inl (vp_updL ow (0 : Int32).toNatClampNeg (((f_X9_entriesOn q v x y).2).toInt64)))))]]) H := hP
    have hD : va_D A (fl [[(qh0, .inr (11, [.ref (va 0), .ref q_snapshot, .int q.1, .ref q_history, .ref q_program, .ref q_notice, .int q.2.1, .int q.2.2]))], wSt G va v, [(owh, .inl (G.2.1 3, 1, .inr (.inl (vp_updL ow (0 : Int32).toNatClampNeg (((f_X9_entriesOn q v x y).2).toInt64)))))]]) := hD
    refine lv_goto (tgt := 21) hx hb dL_entriesOn_10 (by decide) ?_
    refine lv_iconst (v := (0 : Int32)) hx hb dL_entriesOn_21 (by decide) ?_
    exact w_ret (u := ((0 : Int32), (vp_updL ow (0 : Int32).toNatClampNeg (((f_X9_entriesOn q v x y).2).toInt64)))) hx hb hr hlk rfl hS rfl hF.symm hP hD (Nat.le_of_ble_eq_true rfl) (Nat.le_of_ble_eq_true rfl) dL_entriesOn_22
theorem dL_refusalsOn_0 : decode cL_refusalsOn 0 = .ok (.aload_n 3, 1) := by decide +kernel
theorem dL_refusalsOn_1 : decode cL_refusalsOn 1 = .ok (.iconst 0, 1) := by decide +kernel
theorem dL_refusalsOn_2 : decode cL_refusalsOn 2 = .ok (.aload_n 0, 1) := by decide +kernel
theorem dL_refusalsOn_3 : decode cL_refusalsOn 3 = .ok (.iload_n 1, 1) := by decide +kernel
theorem dL_refusalsOn_4 : decode cL_refusalsOn 4 = .ok (.iload_n 2, 1) := by decide +kernel
theorem dL_refusalsOn_5 : decode cL_refusalsOn 5 = .ok (.invokevirtual 120, 3) := by decide +kernel
theorem u_1112 : Cond.methodLink RL 120 yX9_refusalsOn ∈ UW := uw 1112 (by decide +kernel) rfl
theorem u_1113 : Cond.instanceMethod yX9_refusalsOn ∈ UW := uw 1113 (by decide +kernel) rfl
theorem u_1114 : Cond.selects RX9 yX9_refusalsOn yX9_refusalsOn ∈ UW := uw 1114 (by decide +kernel) rfl
theorem u_1115 : Cond.code yX9_refusalsOn cX9_refusalsOn 3 (some .int) ∈ UW := uw 1115 (by decide +kernel) rfl
theorem g_L_120 : GoodIn UW (wsV RL 120 RX9 yX9_refusalsOn (wsU yX9_refusalsOn cX9_refusalsOn 3 (some .int))) := gV u_1112 u_1113 u_1114 u_65 u_1115
theorem hdv_X9_refusalsOn : yX9_refusalsOn.cls = RX9 ∧ yX9_refusalsOn.cls ≠ "java/lang/invoke/MethodHandle" ∧ yX9_refusalsOn.cls ≠ "java/lang/invoke/VarHandle" ∧ (parseMethodDescriptor yX9_refusalsOn.desc).map (fun d => d.parameters.length) = some 2 := by decide +kernel
theorem dL_refusalsOn_13 : decode cL_refusalsOn 13 = .ok (.astore 4, 2) := by decide +kernel
theorem dL_refusalsOn_15 : decode cL_refusalsOn 15 = .ok (.iconst 1, 1) := by decide +kernel
theorem dL_refusalsOn_16 : decode cL_refusalsOn 16 = .ok (.ireturn, 1) := by decide +kernel
theorem dL_refusalsOn_17 : decode cL_refusalsOn 17 = .ok (.astore 4, 2) := by decide +kernel
theorem dL_refusalsOn_19 : decode cL_refusalsOn 19 = .ok (.iconst 2, 1) := by decide +kernel
theorem dL_refusalsOn_20 : decode cL_refusalsOn 20 = .ok (.ireturn, 1) := by decide +kernel
theorem dL_refusalsOn_8 : decode cL_refusalsOn 8 = .ok (.i2l, 1) := by decide +kernel
theorem dL_refusalsOn_9 : decode cL_refusalsOn 9 = .ok (.lastore, 1) := by decide +kernel
theorem dL_refusalsOn_10 : decode cL_refusalsOn 10 = .ok (.goto 11, 3) := by decide +kernel
theorem dL_refusalsOn_21 : decode cL_refusalsOn 21 = .ok (.iconst 0, 1) := by decide +kernel
theorem dL_refusalsOn_22 : decode cL_refusalsOn 22 = .ok (.ireturn, 1) := by decide +kernel
def f_L_refusalsOn (q : McV) (v : StV) (x : Int32) (y : Int32) (ow : Nat → Int64) : Int32 × (Nat → Int64) := (if (f_X9_refusalsOn q v x y).1 = "" then ((0 : Int32), (vp_updL ow (0 : Int32).toNatClampNeg (((f_X9_refusalsOn q v x y).2).toInt64))) else (if (f_X9_refusalsOn q v x y).1 = "java/lang/IndexOutOfBoundsException" then ((1 : Int32), ow) else (if (f_X9_refusalsOn q v x y).1 = "java/lang/IllegalArgumentException" then ((2 : Int32), ow) else (0, ow))))
def ok_L_refusalsOn (q : McV) (v : StV) (x : Int32) (y : Int32) (ow : Nat → Int64) : Prop := (if (f_X9_refusalsOn q v x y).1 = "" then True else (if (f_X9_refusalsOn q v x y).1 = "java/lang/IndexOutOfBoundsException" then True else (if (f_X9_refusalsOn q v x y).1 = "java/lang/IllegalArgumentException" then True else False)))
set_option maxHeartbeats 8000000 in
set_option maxRecDepth 100000 in
set_option linter.constructorNameAsVariable false in
theorem c_L_refusalsOn (l : Launch) (hlf : l.stackTraces = false) (G : GG) (qh0 : Nat) (q_snapshot : Nat) (q_history : Nat) (q_program : Nat) (q_notice : Nat) (va : Nat → Nat) (owh : Nat) (sz : Nat) (q : McV) (v : StV) (x : Int32) (y : Int32) (ow : Nat → Int64) (hok : ok_L_refusalsOn q v x y ow) : wMetH l yL_refusalsOn cL_refusalsOn 5 (some .int) [(0, 10, 13, 21), (0, 10, 17, 13)] 10 2 12 G (fl [[(qh0, .inr (11, [.ref (va 0), .ref q_snapshot, .int q.1, .ref q_history, .ref q_program, .ref q_notice, .int q.2.1, .int q.2.2]))], wSt G va v, [(owh, .inl (G.2.1 3, 1, .inr (.inl ow)))]]) [.ref qh0, .int x, .int y, .ref owh] sz (fun u : Int32 × (Nat → Int64) => some (.int u.1)) (fun u : Int32 × (Nat → Int64) => u = f_L_refusalsOn q v x y ow) (fun u : Int32 × (Nat → Int64) => fl [[(qh0, .inr (11, [.ref (va 0), .ref q_snapshot, .int q.1, .ref q_history, .ref q_program, .ref q_notice, .int q.2.1, .int q.2.2]))], wSt G va v, [(owh, .inl (G.2.1 3, 1, .inr (.inl u.2)))]]) := by
  refine w_startH (by decide +kernel) (Nat.le_of_ble_eq_true rfl) ?_
  intro p e s m below meth c A hx hb hr hml hts hown hlk hin hxt hP hD hA hK hST ls hl
  have hS : va_S A s.heap s.heap [] := va_S.rf
  have hown : s.vm.findClass RL = some m.cls := hown
  have hl : lv_has ls 5 [(0, .ref qh0), (1, .int x), (2, .int y), (3, .ref owh)] := hl
  have hF : f_L_refusalsOn q v x y ow = (if (f_X9_refusalsOn q v x y).1 = "" then ((0 : Int32), (vp_updL ow (0 : Int32).toNatClampNeg (((f_X9_refusalsOn q v x y).2).toInt64))) else (if (f_X9_refusalsOn q v x y).1 = "java/lang/IndexOutOfBoundsException" then ((1 : Int32), ow) else (if (f_X9_refusalsOn q v x y).1 = "java/lang/IllegalArgumentException" then ((2 : Int32), ow) else (0, ow)))) := rfl
  have hok : (if (f_X9_refusalsOn q v x y).1 = "" then True else (if (f_X9_refusalsOn q v x y).1 = "java/lang/IndexOutOfBoundsException" then True else (if (f_X9_refusalsOn q v x y).1 = "java/lang/IllegalArgumentException" then True else False))) := hok
  refine lv_aload_n hx hb dL_refusalsOn_0 rfl (lv_at hl 3 rfl) ?_
  refine lv_iconst (v := (0 : Int32)) hx hb dL_refusalsOn_1 (by decide) ?_
  refine lv_aload_n hx hb dL_refusalsOn_2 rfl (lv_at hl 0 rfl) ?_
  refine lv_iload_n hx hb dL_refusalsOn_3 rfl (lv_at hl 1 rfl) ?_
  refine lv_iload_n hx hb dL_refusalsOn_4 rfl (lv_at hl 2 rfl) ?_
  refine xr_V (own := RL) (v := (some (.int ((f_X9_refusalsOn q v x y).2)))) (st1 := [.int ((f_X9_refusalsOn q v x y).2), .int (0 : Int32), .ref owh]) (As := [.int x, .int y]) (rest := [.int (0 : Int32), .ref owh]) (c_X9_refusalsOnS l hlf G qh0 q_snapshot q_history q_program q_notice va q v x y) ⟨hx, hb, hml, hown, hts⟩ g_L_120 hdv_X9_refusalsOn hK hST hS hP [0, 1, 2, 3, 4, 5, 6, 7, 8, 9, 10, 11, 12, 13, 14, 15, 16, 17, 18, 19, 20] rfl (k0 := 0) rfl rfl rfl ⟨Nat.le_of_ble_eq_true rfl, Nat.le_of_ble_eq_true rfl⟩ ⟨Nat.le_of_ble_eq_true rfl, Nat.le_of_ble_eq_true rfl⟩ rfl hl.1 rfl (Nat.le_of_ble_eq_true rfl) dL_refusalsOn_5 rfl (fun E ce q9 H hE h1 h2 h3 h4 h5 => ?_) (fun b_1 => ?_)
  · have hF := hF.trans (if_neg (fun e => hE.2 (hE.1.trans e)))
    have hok := Eq.mp (if_neg (fun e => hE.2 (hE.1.trans e))) hok
    have hP := hP.kept (fun k q hk => h2 q.1 ((hP k q hk).lt))
    have hS : va_S A s.heap H _ := ⟨Nat.le_trans hS.1 h1, fun q hq hA => (h2 q (Nat.lt_of_lt_of_le hq hS.1)).trans (hS.2.1 q hq hA), hS.2.2⟩
    by_cases c_2 : (f_X9_refusalsOn q v x y).1 = "java/lang/IndexOutOfBoundsException"
    · have hF := hF.trans (if_pos c_2)
      have hok := Eq.mp (if_pos c_2) hok
      have hEE : E = "java/lang/IndexOutOfBoundsException" := hE.1.trans c_2
      subst hEE
      refine vx_catch (own := RL) (name := "java/lang/IndexOutOfBoundsException") hown [] (⟨0, 10, 13, 21⟩ : ExceptionTableEntry) [(⟨0, 10, 17, 13⟩ : ExceptionTableEntry)] (hxt.trans rfl) (fun z hz => nomatch hz) (by decide) (by decide) (hts _ u_608) (va_tabs rfl rfl (hST.2.2.2.2.2.2.2.1 _ cst_IndexOutOfBoundsException)) h3 h4 h5 ?_
      refine W.eq (g2 := F0 m 13 ls [.ref q9]) rfl ?_
      refine lv_astore (lv' := [(4, .ref q9), (0, .ref qh0), (1, .int x), (2, .int y), (3, .ref owh)]) hx hb dL_refusalsOn_13 hl (by decide) rfl (fun ls hl => ?_)
      refine lv_iconst (v := (1 : Int32)) hx hb dL_refusalsOn_15 (by decide) ?_
      exact w_ret (u := ((1 : Int32), ow)) hx hb hr hlk rfl hS rfl hF.symm hP hD (Nat.le_of_ble_eq_true rfl) (Nat.le_of_ble_eq_true rfl) dL_refusalsOn_16
    · have hF := hF.trans (if_neg c_2)
      have hok := Eq.mp (if_neg c_2) hok
      by_cases c_3 : (f_X9_refusalsOn q v x y).1 = "java/lang/IllegalArgumentException"
      · have hF := hF.trans (if_pos c_3)
        have hok := Eq.mp (if_pos c_3) hok
        have hEE : E = "java/lang/IllegalArgumentException" := hE.1.trans c_3
        subst hEE
        refine vx_catch (own := RL) (name := "java/lang/IllegalArgumentException") hown [(⟨0, 10, 13, 21⟩ : ExceptionTableEntry)] (⟨0, 10, 17, 13⟩ : ExceptionTableEntry) [] (hxt.trans rfl) (List.forall_mem_cons.mpr ⟨Or.inr ⟨by decide, "java/lang/IndexOutOfBoundsException", hts _ u_608, hST.2.2.2.2.2.2.2.2.1 ("java/lang/IllegalArgumentException", "java/lang/IndexOutOfBoundsException") (by decide +kernel)⟩, fun _ h => nomatch h⟩) (by decide) (by decide) (hts _ u_403) (va_tabs rfl rfl (hST.2.2.2.2.2.2.2.1 _ cst_IllegalArgumentException)) h3 h4 h5 ?_
        refine W.eq (g2 := F0 m 17 ls [.ref q9]) rfl ?_
        refine lv_astore (lv' := [(4, .ref q9), (0, .ref qh0), (1, .int x), (2, .int y), (3, .ref owh)]) hx hb dL_refusalsOn_17 hl (by decide) rfl (fun ls hl => ?_)
        refine lv_iconst (v := (2 : Int32)) hx hb dL_refusalsOn_19 (by decide) ?_
        exact w_ret (u := ((2 : Int32), ow)) hx hb hr hlk rfl hS rfl hF.symm hP hD (Nat.le_of_ble_eq_true rfl) (Nat.le_of_ble_eq_true rfl) dL_refusalsOn_20
      · have hF := hF.trans (if_neg c_3)
        have hok := Eq.mp (if_neg c_3) hok
        exact hok.elim
  · have hE := b_1.1
    have b_1 := b_1.2
    have hF := hF.trans (if_pos hE)
    have hok := Eq.mp (if_pos hE) hok
    refine lv_i2l hx hb dL_refusalsOn_8 rfl ?_
    refine va_last hx hb hK hP hD hS 21 3 rfl rfl (vp_in_nI (n := 0) (by decide) (by decide)) dL_refusalsOn_9 (fun H locs hP hD hS => ?_)
    have hP : va_P G.1 vwCl (fl [[(qh0, .inr (11, [.ref (va 0), .ref q_snapshot, .int q.1, .ref q_history, .ref q_program, .ref q_notice, .int q.2.1, .int q.2.2]))], wSt G va v, [(owh, .inl (G.2.1 3, 1, .inr (.inl (vp_updL ow (0 : Int32).toNatClampNeg (((f_X9_refusalsOn q v x y).2).toInt64)))))]]) H := hP
    have hD : va_D A (fl [[(qh0, .inr (11, [.ref (va 0), .ref q_snapshot, .int q.1, .ref q_history, .ref q_program, .ref q_notice, .int q.2.1, .int q.2.2]))], wSt G va v, [(owh, .inl (G.2.1 3, 1, .inr (.inl (vp_updL ow (0 : Int32).toNatClampNeg (((f_X9_refusalsOn q v x y).2).toInt64)))))]]) := hD
    refine lv_goto (tgt := 21) hx hb dL_refusalsOn_10 (by decide) ?_
    refine lv_iconst (v := (0 : Int32)) hx hb dL_refusalsOn_21 (by decide) ?_
    exact w_ret (u := ((0 : Int32), (vp_updL ow (0 : Int32).toNatClampNeg (((f_X9_refusalsOn q v x y).2).toInt64)))) hx hb hr hlk rfl hS rfl hF.symm hP hD (Nat.le_of_ble_eq_true rfl) (Nat.le_of_ble_eq_true rfl) dL_refusalsOn_22
