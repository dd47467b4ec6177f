theorem dL_wouldEnter_0 : decode cL_wouldEnter 0 = .ok (.aload_n 3, 1) := by decide +kernel
theorem dL_wouldEnter_1 : decode cL_wouldEnter 1 = .ok (.iconst 0, 1) := by decide +kernel
theorem dL_wouldEnter_2 : decode cL_wouldEnter 2 = .ok (.aload_n 0, 1) := by decide +kernel
theorem dL_wouldEnter_3 : decode cL_wouldEnter 3 = .ok (.iload_n 1, 1) := by decide +kernel
theorem dL_wouldEnter_4 : decode cL_wouldEnter 4 = .ok (.iload_n 2, 1) := by decide +kernel
theorem dL_wouldEnter_5 : decode cL_wouldEnter 5 = .ok (.invokevirtual 74, 3) := by decide +kernel
theorem u_923 : Cond.methodLink RL 74 yX9_wouldEnter ∈ UW := uw 923 (by decide +kernel) rfl
theorem u_924 : Cond.instanceMethod yX9_wouldEnter ∈ UW := uw 924 (by decide +kernel) rfl
theorem u_925 : Cond.selects RX9 yX9_wouldEnter yX9_wouldEnter ∈ UW := uw 925 (by decide +kernel) rfl
theorem u_926 : Cond.code yX9_wouldEnter cX9_wouldEnter 3 (some .int) ∈ UW := uw 926 (by decide +kernel) rfl
theorem g_L_74 : GoodIn UW (wsV RL 74 RX9 yX9_wouldEnter (wsU yX9_wouldEnter cX9_wouldEnter 3 (some .int))) := gV u_923 u_924 u_925 u_65 u_926
theorem hdv_X9_wouldEnter : yX9_wouldEnter.cls = RX9 ∧ yX9_wouldEnter.cls ≠ "java/lang/invoke/MethodHandle" ∧ yX9_wouldEnter.cls ≠ "java/lang/invoke/VarHandle" ∧ (parseMethodDescriptor yX9_wouldEnter.desc).map (fun d => d.parameters.length) = some 2 := by decide +kernel
theorem dL_wouldEnter_13 : decode cL_wouldEnter 13 = .ok (.astore 4, 2) := by decide +kernel
theorem dL_wouldEnter_15 : decode cL_wouldEnter 15 = .ok (.iconst 1, 1) := by decide +kernel
theorem dL_wouldEnter_16 : decode cL_wouldEnter 16 = .ok (.ireturn, 1) := by decide +kernel
theorem dL_wouldEnter_8 : decode cL_wouldEnter 8 = .ok (.i2l, 1) := by decide +kernel
theorem dL_wouldEnter_9 : decode cL_wouldEnter 9 = .ok (.lastore, 1) := by decide +kernel
theorem dL_wouldEnter_10 : decode cL_wouldEnter 10 = .ok (.goto 7, 3) := by decide +kernel
theorem dL_wouldEnter_17 : decode cL_wouldEnter 17 = .ok (.iconst 0, 1) := by decide +kernel
theorem dL_wouldEnter_18 : decode cL_wouldEnter 18 = .ok (.ireturn, 1) := by decide +kernel
def f_L_wouldEnter (q : McV) (v : StV) (x : Int32) (y : Int32) (ow : Nat → Int64) : Int32 × (Nat → Int64) := (if (f_X9_wouldEnter q v x y).1 = "" then ((0 : Int32), (vp_updL ow (0 : Int32).toNatClampNeg (((f_X9_wouldEnter q v x y).2).toInt64))) else (if (f_X9_wouldEnter q v x y).1 = "java/lang/IndexOutOfBoundsException" then ((1 : Int32), ow) else (0, ow)))
def ok_L_wouldEnter (q : McV) (v : StV) (x : Int32) (y : Int32) (ow : Nat → Int64) : Prop := (if (f_X9_wouldEnter q v x y).1 = "" then True else (if (f_X9_wouldEnter q v x y).1 = "java/lang/IndexOutOfBoundsException" then True else False))
set_option maxHeartbeats 8000000 in
set_option maxRecDepth 100000 in
set_option linter.constructorNameAsVariable false in
theorem c_L_wouldEnter (l : Launch) (hlf : l.stackTraces = false) (G : GG) (qh0 : Nat) (q_snapshot : Nat) (q_history : Nat) (q_program : Nat) (q_notice : Nat) (va : Nat → Nat) (owh : Nat) (sz : Nat) (q : McV) (v : StV) (x : Int32) (y : Int32) (ow : Nat → Int64) (hok : ok_L_wouldEnter q v x y ow) : wMetH l yL_wouldEnter cL_wouldEnter 5 (some .int) [(0, 10, 13, 21)] 10 1 6 G (fl [[(qh0, .inr (11, [.ref (va 0), .ref q_snapshot, .int q.1, .ref q_history, .ref q_program, .ref q_notice, .int q.2.1, .int q.2.2]))], wSt G va v, [(owh, .inl (G.2.1 3, 1, .inr (.inl ow)))]]) [.ref qh0, .int x, .int y, .ref owh] sz (fun u : Int32 × (Nat → Int64) => some (.int u.1)) (fun u : Int32 × (Nat → Int64) => u = f_L_wouldEnter q v x y ow) (fun u : Int32 × (Nat → Int64) => fl [[(qh0, .inr (11, [.ref (va 0), .ref q_snapshot, .int q.1, .ref q_history, .ref q_program, .ref q_notice, .int q.2.1, .int q.2.2]))], wSt G va v, [(owh, .inl (G.2.1 3, 1, .inr (.inl u.2)))]]) := by
  refine w_startH (by decide +kernel) (Nat.le_of_ble_eq_true rfl) ?_
  intro p e s m below meth c A hx hb hr hml hts hown hlk hin hxt hP hD hA hK hST ls hl
  have hS : va_S A s.heap s.heap [] := va_S.rf
  have hown : s.vm.findClass RL = some m.cls := hown
  have hl : lv_has ls 5 [(0, .ref qh0), (1, .int x), (2, .int y), (3, .ref owh)] := hl
  have hF : f_L_wouldEnter q v x y ow = (if (f_X9_wouldEnter q v x y).1 = "" then ((0 : Int32), (vp_updL ow (0 : Int32).toNatClampNeg (((f_X9_wouldEnter q v x y).2).toInt64))) else (if (f_X9_wouldEnter q v x y).1 = "java/lang/IndexOutOfBoundsException" then ((1 : Int32), ow) else (0, ow))) := rfl
  have hok : (if (f_X9_wouldEnter q v x y).1 = "" then True else (if (f_X9_wouldEnter q v x y).1 = "java/lang/IndexOutOfBoundsException" then True else False)) := hok
  refine lv_aload_n hx hb dL_wouldEnter_0 rfl (lv_at hl 3 rfl) ?_
  refine lv_iconst (v := (0 : Int32)) hx hb dL_wouldEnter_1 (by decide) ?_
  refine lv_aload_n hx hb dL_wouldEnter_2 rfl (lv_at hl 0 rfl) ?_
  refine lv_iload_n hx hb dL_wouldEnter_3 rfl (lv_at hl 1 rfl) ?_
  refine lv_iload_n hx hb dL_wouldEnter_4 rfl (lv_at hl 2 rfl) ?_
  refine xr_V (own := RL) (v := (some (.int ((f_X9_wouldEnter q v x y).2)))) (st1 := [.int ((f_X9_wouldEnter q v x y).2), .int (0 : Int32), .ref owh]) (As := [.int x, .int y]) (rest := [.int (0 : Int32), .ref owh]) (c_X9_wouldEnterS l hlf G qh0 q_snapshot q_history q_program q_notice va q v x y) ⟨hx, hb, hml, hown, hts⟩ g_L_74 hdv_X9_wouldEnter hK hST hS hP [0, 1, 2, 3, 4, 5, 6, 7, 8, 9, 10, 11, 12, 13, 14, 15, 16, 17, 18, 19, 20] rfl (k0 := 0) rfl rfl rfl ⟨Nat.le_of_ble_eq_true rfl, Nat.le_of_ble_eq_true rfl⟩ ⟨Nat.le_of_ble_eq_true rfl, Nat.le_of_ble_eq_true rfl⟩ rfl hl.1 rfl (Nat.le_of_ble_eq_true rfl) dL_wouldEnter_5 rfl (fun E ce q9 H hE h1 h2 h3 h4 h5 => ?_) (fun b_1 => ?_)
  · have hF := hF.trans (if_neg (fun e => hE.2 (hE.1.trans e)))
    have hok := Eq.mp (if_neg (fun e => hE.2 (hE.1.trans e))) hok
    have hP := hP.kept (fun k q hk => h2 q.1 ((hP k q hk).lt))
    have hS : va_S A s.heap H _ := ⟨Nat.le_trans hS.1 h1, fun q hq hA => (h2 q (Nat.lt_of_lt_of_le hq hS.1)).trans (hS.2.1 q hq hA), hS.2.2⟩
    by_cases c_2 : (f_X9_wouldEnter q v x y).1 = "java/lang/IndexOutOfBoundsException"
    · have hF := hF.trans (if_pos c_2)
      have hok := Eq.mp (if_pos c_2) hok
      have hEE : E = "java/lang/IndexOutOfBoundsException" := hE.1.trans c_2
      subst hEE
      refine vx_catch (own := RL) (name := "java/lang/IndexOutOfBoundsException") hown [] (⟨0, 10, 13, 21⟩ : ExceptionTableEntry) [] (hxt.trans rfl) (fun z hz => nomatch hz) (by decide) (by decide) (hts _ u_608) (va_tabs rfl rfl (hST.2.2.2.2.2.2.2.1 _ cst_IndexOutOfBoundsException)) h3 h4 h5 ?_
      refine W.eq (g2 := F0 m 13 ls [.ref q9]) rfl ?_
      refine lv_astore (lv' := [(4, .ref q9), (0, .ref qh0), (1, .int x), (2, .int y), (3, .ref owh)]) hx hb dL_wouldEnter_13 hl (by decide) rfl (fun ls hl => ?_)
      refine lv_iconst (v := (1 : Int32)) hx hb dL_wouldEnter_15 (by decide) ?_
      exact w_ret (u := ((1 : Int32), ow)) hx hb hr hlk rfl hS rfl hF.symm hP hD (Nat.le_of_ble_eq_true rfl) (Nat.le_of_ble_eq_true rfl) dL_wouldEnter_16
    · have hF := hF.trans (if_neg c_2)
      have hok := Eq.mp (if_neg c_2) hok
      exact hok.elim
  · have hE := b_1.1
    have b_1 := b_1.2
    have hF := hF.trans (if_pos hE)
    have hok := Eq.mp (if_pos hE) hok
    refine lv_i2l hx hb dL_wouldEnter_8 rfl ?_
    refine va_last hx hb hK hP hD hS 21 3 rfl rfl (vp_in_nI (n := 0) (by decide) (by decide)) dL_wouldEnter_9 (fun H locs hP hD hS => ?_)
    have hP : va_P G.1 vwCl (fl [[(qh0, .inr (11, [.ref (va 0), .ref q_snapshot, .int q.1, .ref q_history, .ref q_program, .ref q_notice, .int q.2.1, .int q.2.2]))], wSt G va v, [(owh, .inl (G.2.1 3, 1, .inr (.inl (vp_updL ow (0 : Int32).toNatClampNeg (((f_X9_wouldEnter q v x y).2).toInt64)))))]]) H := hP
    have hD : va_D A (fl [[(qh0, .inr (11, [.ref (va 0), .ref q_snapshot, .int q.1, .ref q_history, .ref q_program, .ref q_notice, .int q.2.1, .int q.2.2]))], wSt G va v, [(owh, .inl (G.2.1 3, 1, .inr (.inl (vp_updL ow (0 : Int32).toNatClampNeg (((f_X9_wouldEnter q v x y).2).toInt64)))))]]) := hD
    refine lv_goto (tgt := 17) hx hb dL_wouldEnter_10 (by decide) ?_
    refine lv_iconst (v := (0 : Int32)) hx hb dL_wouldEnter_17 (by decide) ?_
    exact w_ret (u := ((0 : Int32), (vp_updL ow (0 : Int32).toNatClampNeg (((f_X9_wouldEnter q v x y).2).toInt64)))) hx hb hr hlk rfl hS rfl hF.symm hP hD (Nat.le_of_ble_eq_true rfl) (Nat.le_of_ble_eq_true rfl) dL_wouldEnter_18
theorem dL_hasKey_0 : decode cL_hasKey 0 = .ok (.aload_n 3, 1) := by decide +kernel
theorem dL_hasKey_1 : decode cL_hasKey 1 = .ok (.iconst 0, 1) := by decide +kernel
theorem dL_hasKey_2 : decode cL_hasKey 2 = .ok (.aload_n 0, 1) := by decide +kernel
theorem dL_hasKey_3 : decode cL_hasKey 3 = .ok (.iload_n 1, 1) := by decide +kernel
theorem dL_hasKey_4 : decode cL_hasKey 4 = .ok (.iload_n 2, 1) := by decide +kernel
theorem dL_hasKey_5 : decode cL_hasKey 5 = .ok (.invokevirtual 77, 3) := by decide +kernel
theorem u_931 : Cond.methodLink RL 77 yX9_hasKey ∈ UW := uw 931 (by decide +kernel) rfl
theorem u_932 : Cond.instanceMethod yX9_hasKey ∈ UW := uw 932 (by decide +kernel) rfl
theorem u_933 : Cond.selects RX9 yX9_hasKey yX9_hasKey ∈ UW := uw 933 (by decide +kernel) rfl
theorem u_934 : Cond.code yX9_hasKey cX9_hasKey 3 (some .boolean) ∈ UW := uw 934 (by decide +kernel) rfl
theorem g_L_77 : GoodIn UW (wsV RL 77 RX9 yX9_hasKey (wsU yX9_hasKey cX9_hasKey 3 (some .boolean))) := gV u_931 u_932 u_933 u_65 u_934
theorem hdv_X9_hasKey : yX9_hasKey.cls = RX9 ∧ yX9_hasKey.cls ≠ "java/lang/invoke/MethodHandle" ∧ yX9_hasKey.cls ≠ "java/lang/invoke/VarHandle" ∧ (parseMethodDescriptor yX9_hasKey.desc).map (fun d => d.parameters.length) = some 2 := by decide +kernel
theorem dL_hasKey_20 : decode cL_hasKey 20 = .ok (.astore 4, 2) := by decide +kernel
theorem dL_hasKey_22 : decode cL_hasKey 22 = .ok (.iconst 1, 1) := by decide +kernel
theorem dL_hasKey_23 : decode cL_hasKey 23 = .ok (.ireturn, 1) := by decide +kernel
theorem dL_hasKey_8 : decode cL_hasKey 8 = .ok (.ifCond .eq 7, 3) := by decide +kernel
theorem dL_hasKey_15 : decode cL_hasKey 15 = .ok (.lconst 0, 1) := by decide +kernel
theorem dL_hasKey_16 : decode cL_hasKey 16 = .ok (.lastore, 1) := by decide +kernel
theorem dL_hasKey_17 : decode cL_hasKey 17 = .ok (.goto 7, 3) := by decide +kernel
theorem dL_hasKey_24 : decode cL_hasKey 24 = .ok (.iconst 0, 1) := by decide +kernel
theorem dL_hasKey_25 : decode cL_hasKey 25 = .ok (.ireturn, 1) := by decide +kernel
theorem dL_hasKey_11 : decode cL_hasKey 11 = .ok (.lconst 1, 1) := by decide +kernel
theorem dL_hasKey_12 : decode cL_hasKey 12 = .ok (.goto 4, 3) := by decide +kernel
def f_L_hasKey (q : McV) (v : StV) (x : Int32) (y : Int32) (ow : Nat → Int64) : Int32 × (Nat → Int64) := (if (f_X9_hasKey q v x y).1 = "" then (if (f_X9_hasKey q v x y).2 = (0 : Int32) then ((0 : Int32), (vp_updL ow (0 : Int32).toNatClampNeg (0 : Int64))) else ((0 : Int32), (vp_updL ow (0 : Int32).toNatClampNeg (1 : Int64)))) else (if (f_X9_hasKey q v x y).1 = "java/lang/IndexOutOfBoundsException" then ((1 : Int32), ow) else (0, ow)))
def ok_L_hasKey (q : McV) (v : StV) (x : Int32) (y : Int32) (ow : Nat → Int64) : Prop := (if (f_X9_hasKey q v x y).1 = "" then True else (if (f_X9_hasKey q v x y).1 = "java/lang/IndexOutOfBoundsException" then True else False))
set_option maxHeartbeats 8000000 in
set_option maxRecDepth 100000 in
set_option linter.constructorNameAsVariable false in
theorem c_L_hasKey (l : Launch) (hlf : l.stackTraces = false) (G : GG) (qh0 : Nat) (q_snapshot : Nat) (q_history : Nat) (q_program : Nat) (q_notice : Nat) (va : Nat → Nat) (owh : Nat) (sz : Nat) (q : McV) (v : StV) (x : Int32) (y : Int32) (ow : Nat → Int64) (hok : ok_L_hasKey q v x y ow) : wMetH l yL_hasKey cL_hasKey 5 (some .int) [(0, 17, 20, 21)] 10 1 6 G (fl [[(qh0, .inr (11, [.ref (va 0), .ref q_snapshot, .int q.1, .ref q_history, .ref q_program, .ref q_notice, .int q.2.1, .int q.2.2]))], wSt G va v, [(owh, .inl (G.2.1 3, 1, .inr (.inl ow)))]]) [.ref qh0, .int x, .int y, .ref owh] sz (fun u : Int32 × (Nat → Int64) => some (.int u.1)) (fun u : Int32 × (Nat → Int64) => u = f_L_hasKey q v x y ow) (fun u : Int32 × (Nat → Int64) => fl [[(qh0, .inr (11, [.ref (va 0), .ref q_snapshot, .int q.1, .ref q_history, .ref q_program, .ref q_notice, .int q.2.1, .int q.2.2]))], wSt G va v, [(owh, .inl (G.2.1 3, 1, .inr (.inl u.2)))]]) := by
  refine w_startH (by decide +kernel) (Nat.le_of_ble_eq_true rfl) ?_
  intro p e s m below meth c A hx hb hr hml hts hown hlk hin hxt hP hD hA hK hST ls hl
  have hS : va_S A s.heap s.heap [] := va_S.rf
  have hown : s.vm.findClass RL = some m.cls := hown
  have hl : lv_has ls 5 [(0, .ref qh0), (1, .int x), (2, .int y), (3, .ref owh)] := hl
  have hF : f_L_hasKey q v x y ow = (if (f_X9_hasKey q v x y).1 = "" then (if (f_X9_hasKey q v x y).2 = (0 : Int32) then ((0 : Int32), (vp_updL ow (0 : Int32).toNatClampNeg (0 : Int64))) else ((0 : Int32), (vp_updL ow (0 : Int32).toNatClampNeg (1 : Int64)))) else (if (f_X9_hasKey q v x y).1 = "java/lang/IndexOutOfBoundsException" then ((1 : Int32), ow) else (0, ow))) := rfl
  have hok : (if (f_X9_hasKey q v x y).1 = "" then True else (if (f_X9_hasKey q v x y).1 = "java/lang/IndexOutOfBoundsException" then True else False)) := hok
  refine lv_aload_n hx hb dL_hasKey_0 rfl (lv_at hl 3 rfl) ?_
  refine lv_iconst (v := (0 : Int32)) hx hb dL_hasKey_1 (by decide) ?_
  refine lv_aload_n hx hb dL_hasKey_2 rfl (lv_at hl 0 rfl) ?_
  refine lv_iload_n hx hb dL_hasKey_3 rfl (lv_at hl 1 rfl) ?_
  refine lv_iload_n hx hb dL_hasKey_4 rfl (lv_at hl 2 rfl) ?_
  refine xr_V (own := RL) (v := (some (.int ((f_X9_hasKey q v x y).2)))) (st1 := [.int ((f_X9_hasKey q v x y).2), .int (0 : Int32), .ref owh]) (As := [.int x, .int y]) (rest := [.int (0 : Int32), .ref owh]) (c_X9_hasKeyS l hlf G qh0 q_snapshot q_history q_program q_notice va q v x y) ⟨hx, hb, hml, hown, hts⟩ g_L_77 hdv_X9_hasKey hK hST hS hP [0, 1, 2, 3, 4, 5, 6, 7, 8, 9, 10, 11, 12, 13, 14, 15, 16, 17, 18, 19, 20] rfl (k0 := 0) rfl rfl rfl ⟨Nat.le_of_ble_eq_true rfl, Nat.le_of_ble_eq_true rfl⟩ ⟨Nat.le_of_ble_eq_true rfl, Nat.le_of_ble_eq_true rfl⟩ rfl hl.1 rfl (Nat.le_of_ble_eq_true rfl) dL_hasKey_5 rfl (fun E ce q9 H hE h1 h2 h3 h4 h5 => ?_) (fun b_1 => ?_)
  · have hF := hF.trans (if_neg (fun e => hE.2 (hE.1.trans e)))
    have hok := Eq.mp (if_neg (fun e => hE.2 (hE.1.trans e))) hok
    have hP := hP.kept (fun k q hk => h2 q.1 ((hP k q hk).lt))
    have hS : va_S A s.heap H _ := ⟨Nat.le_trans hS.1 h1, fun q hq hA => (h2 q (Nat.lt_of_lt_of_le hq hS.1)).trans (hS.2.1 q hq hA), hS.2.2⟩
    by_cases c_2 : (f_X9_hasKey q v x y).1 = "java/lang/IndexOutOfBoundsException"
    · have hF := hF.trans (if_pos c_2)
      have hok := Eq.mp (if_pos c_2) hok
      have hEE : E = "java/lang/IndexOutOfBoundsException" := hE.1.trans c_2
      subst hEE
      refine vx_catch (own := RL) (name := "java/lang/IndexOutOfBoundsException") hown [] (⟨0, 17, 20, 21⟩ : ExceptionTableEntry) [] (hxt.trans rfl) (fun z hz => nomatch hz) (by decide) (by decide) (hts _ u_608) (va_tabs rfl rfl (hST.2.2.2.2.2.2.2.1 _ cst_IndexOutOfBoundsException)) h3 h4 h5 ?_
      refine W.eq (g2 := F0 m 20 ls [.ref q9]) rfl ?_
      refine lv_astore (lv' := [(4, .ref q9), (0, .ref qh0), (1, .int x), (2, .int y), (3, .ref owh)]) hx hb dL_hasKey_20 hl (by decide) rfl (fun ls hl => ?_)
      refine lv_iconst (v := (1 : Int32)) hx hb dL_hasKey_22 (by decide) ?_
      exact w_ret (u := ((1 : Int32), ow)) hx hb hr hlk rfl hS rfl hF.symm hP hD (Nat.le_of_ble_eq_true rfl) (Nat.le_of_ble_eq_true rfl) dL_hasKey_23
    · have hF := hF.trans (if_neg c_2)
      have hok := Eq.mp (if_neg c_2) hok
      exact hok.elim
  · have hE := b_1.1
    have b_1 := b_1.2
    have hF := hF.trans (if_pos hE)
    have hok := Eq.mp (if_pos hE) hok
    refine lv_if_eq (tgt := 15) hx hb dL_hasKey_8 (by decide) (fun c_3 => ?_) (fun c_3 => ?_)
    · have hF := hF.trans (if_pos c_3)
      refine lv_lconst (v := (0 : Int64)) hx hb dL_hasKey_15 (by decide) ?_
      refine va_last hx hb hK hP hD hS 21 3 rfl rfl (vp_in_nI (n := 0) (by decide) (by decide)) dL_hasKey_16 (fun H locs hP hD hS => ?_)
      have hP : va_P G.1 vwCl (fl [[(qh0, .inr (11, [.ref (va 0), .ref q_snapshot, .int q.1, .ref q_history, .ref q_program, .ref q_notice, .int q.2.1, .int q.2.2]))], wSt G va v, [(owh, .inl (G.2.1 3, 1, .inr (.inl (vp_updL ow (0 : Int32).toNatClampNeg (0 : Int64)))))]]) H := hP
      have hD : va_D A (fl [[(qh0, .inr (11, [.ref (va 0), .ref q_snapshot, .int q.1, .ref q_history, .ref q_program, .ref q_notice, .int q.2.1, .int q.2.2]))], wSt G va v, [(owh, .inl (G.2.1 3, 1, .inr (.inl (vp_updL ow (0 : Int32).toNatClampNeg (0 : Int64)))))]]) := hD
      refine lv_goto (tgt := 24) hx hb dL_hasKey_17 (by decide) ?_
      refine lv_iconst (v := (0 : Int32)) hx hb dL_hasKey_24 (by decide) ?_
      exact w_ret (u := ((0 : Int32), (vp_updL ow (0 : Int32).toNatClampNeg (0 : Int64)))) hx hb hr hlk rfl hS rfl hF.symm hP hD (Nat.le_of_ble_eq_true rfl) (Nat.le_of_ble_eq_true rfl) dL_hasKey_25
    · have hF := hF.trans (if_neg c_3)
      refine lv_lconst (v := (1 : Int64)) hx hb dL_hasKey_11 (by decide) ?_
      refine lv_goto (tgt := 16) hx hb dL_hasKey_12 (by decide) ?_
      refine va_last hx hb hK hP hD hS 21 3 rfl rfl (vp_in_nI (n := 0) (by decide) (by decide)) dL_hasKey_16 (fun H locs hP hD hS => ?_)
      have hP : va_P G.1 vwCl (fl [[(qh0, .inr (11, [.ref (va 0), .ref q_snapshot, .int q.1, .ref q_history, .ref q_program, .ref q_notice, .int q.2.1, .int q.2.2]))], wSt G va v, [(owh, .inl (G.2.1 3, 1, .inr (.inl (vp_updL ow (0 : Int32).toNatClampNeg (1 : Int64)))))]]) H := hP
      have hD : va_D A (fl [[(qh0, .inr (11, [.ref (va 0), .ref q_snapshot, .int q.1, .ref q_history, .ref q_program, .ref q_notice, .int q.2.1, .int q.2.2]))], wSt G va v, [(owh, .inl (G.2.1 3, 1, .inr (.inl (vp_updL ow (0 : Int32).toNatClampNeg (1 : Int64)))))]]) := hD
      refine lv_goto (tgt := 24) hx hb dL_hasKey_17 (by decide) ?_
      refine lv_iconst (v := (0 : Int32)) hx hb dL_hasKey_24 (by decide) ?_
      exact w_ret (u := ((0 : Int32), (vp_updL ow (0 : Int32).toNatClampNeg (1 : Int64)))) hx hb hr hlk rfl hS rfl hF.symm hP hD (Nat.le_of_ble_eq_true rfl) (Nat.le_of_ble_eq_true rfl) dL_hasKey_25
theorem dL_keyAt_0 : decode cL_keyAt 0 = .ok (.aload_n 3, 1) := by decide +kernel
theorem dL_keyAt_1 : decode cL_keyAt 1 = .ok (.iconst 0, 1) := by decide +kernel
theorem dL_keyAt_2 : decode cL_keyAt 2 = .ok (.aload_n 0, 1) := by decide +kernel
theorem dL_keyAt_3 : decode cL_keyAt 3 = .ok (.iload_n 1, 1) := by decide +kernel
theorem dL_keyAt_4 : decode cL_keyAt 4 = .ok (.iload_n 2, 1) := by decide +kernel
theorem dL_keyAt_5 : decode cL_keyAt 5 = .ok (.invokevirtual 80, 3) := by decide +kernel
theorem u_945 : Cond.methodLink RL 80 yX9_keyAt ∈ UW := uw 945 (by decide +kernel) rfl
theorem u_946 : Cond.instanceMethod yX9_keyAt ∈ UW := uw 946 (by decide +kernel) rfl
theorem u_947 : Cond.selects RX9 yX9_keyAt yX9_keyAt ∈ UW := uw 947 (by decide +kernel) rfl
theorem u_948 : Cond.code yX9_keyAt cX9_keyAt 4 (some .int) ∈ UW := uw 948 (by decide +kernel) rfl
theorem g_L_80 : GoodIn UW (wsV RL 80 RX9 yX9_keyAt (wsU yX9_keyAt cX9_keyAt 4 (some .int))) := gV u_945 u_946 u_947 u_65 u_948
theorem hdv_X9_keyAt : yX9_keyAt.cls = RX9 ∧ yX9_keyAt.cls ≠ "java/lang/invoke/MethodHandle" ∧ yX9_keyAt.cls ≠ "java/lang/invoke/VarHandle" ∧ (parseMethodDescriptor yX9_keyAt.desc).map (fun d => d.parameters.length) = some 2 := by decide +kernel
theorem dL_keyAt_13 : decode cL_keyAt 13 = .ok (.astore 4, 2) := by decide +kernel
theorem dL_keyAt_15 : decode cL_keyAt 15 = .ok (.iconst 1, 1) := by decide +kernel
theorem dL_keyAt_16 : decode cL_keyAt 16 = .ok (.ireturn, 1) := by decide +kernel
theorem dL_keyAt_17 : decode cL_keyAt 17 = .ok (.astore 4, 2) := by decide +kernel
theorem dL_keyAt_19 : decode cL_keyAt 19 = .ok (.iconst 2, 1) := by decide +kernel
theorem dL_keyAt_20 : decode cL_keyAt 20 = .ok (.ireturn, 1) := by decide +kernel
theorem dL_keyAt_8 : decode cL_keyAt 8 = .ok (.i2l, 1) := by decide +kernel
theorem dL_keyAt_9 : decode cL_keyAt 9 = .ok (.lastore, 1) := by decide +kernel
theorem dL_keyAt_10 : decode cL_keyAt 10 = .ok (.goto 11, 3) := by decide +kernel
theorem dL_keyAt_21 : decode cL_keyAt 21 = .ok (.iconst 0, 1) := by decide +kernel
theorem dL_keyAt_22 : decode cL_keyAt 22 = .ok (.ireturn, 1) := by decide +kernel
def f_L_keyAt (q : McV) (v : StV) (x : Int32) (y : Int32) (ow : Nat → Int64) : Int32 × (Nat → Int64) := (if (f_X9_keyAt q v x y).1 = "" then ((0 : Int32), (vp_updL ow (0 : Int32).toNatClampNeg (((f_X9_keyAt q v x y).2).toInt64))) else (if (f_X9_keyAt q v x y).1 = "java/lang/IndexOutOfBoundsException" then ((1 : Int32), ow) else (if (f_X9_keyAt q v x y).1 = "java/util/NoSuchElementException" then ((2 : Int32), ow) else (0, ow))))
def ok_L_keyAt (q : McV) (v : StV) (x : Int32) (y : Int32) (ow : Nat → Int64) : Prop := (if (f_X9_keyAt q v x y).1 = "" then True else (if (f_X9_keyAt q v x y).1 = "java/lang/IndexOutOfBoundsException" then True else (if (f_X9_keyAt q v x y).1 = "java/util/NoSuchElementException" then True else False)))
set_option maxHeartbeats 8000000 in
set_option maxRecDepth 100000 in
set_option linter.constructorNameAsVariable false in
theorem c_L_keyAt (l : Launch) (hlf : l.stackTraces = false) (G : GG) (qh0 : Nat) (q_snapshot : Nat) (q_history : Nat) (q_program : Nat) (q_notice : Nat) (va : Nat → Nat) (owh : Nat) (sz : Nat) (q : McV) (v : StV) (x : Int32) (y : Int32) (ow : Nat → Int64) (hok : ok_L_keyAt q v x y ow) : wMetH l yL_keyAt cL_keyAt 5 (some .int) [(0, 10, 13, 21), (0, 10, 17, 33)] 10 2 12 G (fl [[(qh0, .inr (11, [.ref (va 0), .ref q_snapshot, .int q.1, .ref q_history, .ref q_program, .ref q_notice, .int q.2.1, .int q.2.2]))], wSt G va v, [(owh, .inl (G.2.1 3, 1, .inr (.inl ow)))]]) [.ref qh0, .int x, .int y, .ref owh] sz (fun u : Int32 × (Nat → Int64) => some (.int u.1)) (fun u : Int32 × (Nat → Int64) => u = f_L_keyAt q v x y ow) (fun u : Int32 × (Nat → Int64) => fl [[(qh0, .inr (11, [.ref (va 0), .ref q_snapshot, .int q.1, .ref q_history, .ref q_program, .ref q_notice, .int q.2.1, .int q.2.2]))], wSt G va v, [(owh, .inl (G.2.1 3, 1, .inr (.inl u.2)))]]) := by
  refine w_startH (by decide +kernel) (Nat.le_of_ble_eq_true rfl) ?_
  intro p e s m below meth c A hx hb hr hml hts hown hlk hin hxt hP hD hA hK hST ls hl
  have hS : va_S A s.heap s.heap [] := va_S.rf
  have hown : s.vm.findClass RL = some m.cls := hown
  have hl : lv_has ls 5 [(0, .ref qh0), (1, .int x), (2, .int y), (3, .ref owh)] := hl
  have hF : f_L_keyAt q v x y ow = (if (f_X9_keyAt q v x y).1 = "" then ((0 : Int32), (vp_updL ow (0 : Int32).toNatClampNeg (((f_X9_keyAt q v x y).2).toInt64))) else (if (f_X9_keyAt q v x y).1 = "java/lang/IndexOutOfBoundsException" then ((1 : Int32), ow) else (if (f_X9_keyAt q v x y).1 = "java/util/NoSuchElementException" then ((2 : Int32), ow) else (0, ow)))) := rfl
  have hok : (if (f_X9_keyAt q v x y).1 = "" then True else (if (f_X9_keyAt q v x y).1 = "java/lang/IndexOutOfBoundsException" then True else (if (f_X9_keyAt q v x y).1 = "java/util/NoSuchElementException" then True else False))) := hok
  refine lv_aload_n hx hb dL_keyAt_0 rfl (lv_at hl 3 rfl) ?_
  refine lv_iconst (v := (0 : Int32)) hx hb dL_keyAt_1 (by decide) ?_
  refine lv_aload_n hx hb dL_keyAt_2 rfl (lv_at hl 0 rfl) ?_
  refine lv_iload_n hx hb dL_keyAt_3 rfl (lv_at hl 1 rfl) ?_
  refine lv_iload_n hx hb dL_keyAt_4 rfl (lv_at hl 2 rfl) ?_
  refine xr_V (own := RL) (v := (some (.int ((f_X9_keyAt q v x y).2)))) (st1 := [.int ((f_X9_keyAt q v x y).2), .int (0 : Int32), .ref owh]) (As := [.int x, .int y]) (rest := [.int (0 : Int32), .ref owh]) (c_X9_keyAtS l hlf G qh0 q_snapshot q_history q_program q_notice va q v x y) ⟨hx, hb, hml, hown, hts⟩ g_L_80 hdv_X9_keyAt hK hST hS hP [0, 1, 2, 3, 4, 5, 6, 7, 8, 9, 10, 11, 12, 13, 14, 15, 16, 17, 18, 19, 20] rfl (k0 := 0) rfl rfl rfl ⟨Nat.le_of_ble_eq_true rfl, Nat.le_of_ble_eq_true rfl⟩ ⟨Nat.le_of_ble_eq_true rfl, Nat.le_of_ble_eq_true rfl⟩ rfl hl.1 rfl (Nat.le_of_ble_eq_true rfl) dL_keyAt_5 rfl (fun E ce q9 H hE h1 h2 h3 h4 h5 => ?_) (fun b_1 => ?_)
  · have hF := hF.trans (if_neg (fun e => hE.2 (hE.1.trans e)))
    have hok := Eq.mp (if_neg (fun e => hE.2 (hE.1.trans e))) hok
    have hP := hP.kept (fun k q hk => h2 q.1 ((hP k q hk).lt))
    have hS : va_S A s.heap H _ := ⟨Nat.le_trans hS.1 h1, fun q hq hA => (h2 q (Nat.lt_of_lt_of_le hq hS.1)).trans (hS.2.1 q hq hA), hS.2.2⟩
    by_cases c_2 : (f_X9_keyAt q v x y).1 = "java/lang/IndexOutOfBoundsException"
    · have hF := hF.trans (if_pos c_2)
      have hok := Eq.mp (if_pos c_2) hok
      have hEE : E = "java/lang/IndexOutOfBoundsException" := hE.1.trans c_2
      subst hEE
      refine vx_catch (own := RL) (name := "java/lang/IndexOutOfBoundsException") hown [] (⟨0, 10, 13, 21⟩ : ExceptionTableEntry) [(⟨0, 10, 17, 33⟩ : ExceptionTableEntry)] (hxt.trans rfl) (fun z hz => nomatch hz) (by decide) (by decide) (hts _ u_608) (va_tabs rfl rfl (hST.2.2.2.2.2.2.2.1 _ cst_IndexOutOfBoundsException)) h3 h4 h5 ?_
      refine W.eq (g2 := F0 m 13 ls [.ref q9]) rfl ?_
      refine lv_astore (lv' := [(4, .ref q9), (0, .ref qh0), (1, .int x), (2, .int y), (3, .ref owh)]) hx hb dL_keyAt_13 hl (by decide) rfl (fun ls hl => ?_)
      refine lv_iconst (v := (1 : Int32)) hx hb dL_keyAt_15 (by decide) ?_
      exact w_ret (u := ((1 : Int32), ow)) hx hb hr hlk rfl hS rfl hF.symm hP hD (Nat.le_of_ble_eq_true rfl) (Nat.le_of_ble_eq_true rfl) dL_keyAt_16
    · have hF := hF.trans (if_neg c_2)
      have hok := Eq.mp (if_neg c_2) hok
      by_cases c_3 : (f_X9_keyAt q v x y).1 = "java/util/NoSuchElementException"
      · have hF := hF.trans (if_pos c_3)
        have hok := Eq.mp (if_pos c_3) hok
        have hEE : E = "java/util/NoSuchElementException" := hE.1.trans c_3
        subst hEE
        refine vx_catch (own := RL) (name := "java/util/NoSuchElementException") hown [(⟨0, 10, 13, 21⟩ : ExceptionTableEntry)] (⟨0, 10, 17, 33⟩ : ExceptionTableEntry) [] (hxt.trans rfl) (List.forall_mem_cons.mpr ⟨Or.inr ⟨by decide, "java/lang/IndexOutOfBoundsException", hts _ u_608, hST.2.2.2.2.2.2.2.2.1 ("java/util/NoSuchElementException", "java/lang/IndexOutOfBoundsException") (by decide +kernel)⟩, fun _ h => nomatch h⟩) (by decide) (by decide) (hts _ u_689) (va_tabs rfl rfl (hST.2.2.2.2.2.2.2.1 _ cst_NoSuchElementException)) h3 h4 h5 ?_
        refine W.eq (g2 := F0 m 17 ls [.ref q9]) rfl ?_
        refine lv_astore (lv' := [(4, .ref q9), (0, .ref qh0), (1, .int x), (2, .int y), (3, .ref owh)]) hx hb dL_keyAt_17 hl (by decide) rfl (fun ls hl => ?_)
        refine lv_iconst (v := (2 : Int32)) hx hb dL_keyAt_19 (by decide) ?_
        exact w_ret (u := ((2 : Int32), ow)) hx hb hr hlk rfl hS rfl hF.symm hP hD (Nat.le_of_ble_eq_true rfl) (Nat.le_of_ble_eq_true rfl) dL_keyAt_20
      · have hF := hF.trans (if_neg c_3)
        have hok := Eq.mp (if_neg c_3) hok
        exact hok.elim
  · have hE := b_1.1
    have b_1 := b_1.2
    have hF := hF.trans (if_pos hE)
    have hok := Eq.mp (if_pos hE) hok
    refine lv_i2l hx hb dL_keyAt_8 rfl ?_
    refine va_last hx hb hK hP hD hS 21 3 rfl rfl (vp_in_nI (n := 0) (by decide) (by decide)) dL_keyAt_9 (fun H locs hP hD hS => ?_)
    have hP : va_P G.1 vwCl (fl [[(qh0, .inr (11, [.ref (va 0), .ref q_snapshot, .int q.1, .ref q_history, .ref q_program, .ref q_notice, .int q.2.1, .int q.2.2]))], wSt G va v, [(owh, .inl (G.2.1 3, 1, .inr (.inl (vp_updL ow (0 : Int32).toNatClampNeg (((f_X9_keyAt q v x y).2).toInt64)))))]]) H := hP
    have hD : va_D A (fl [[(qh0, .inr (11, [.ref (va 0), .ref q_snapshot, .int q.1, .ref q_history, .ref q_program, .ref q_notice, .int q.2.1, .int q.2.2]))], wSt G va v, [(owh, .inl (G.2.1 3, 1, .inr (.inl (vp_updL ow (0 : Int32).toNatClampNeg (((f_X9_keyAt q v x y).2).toInt64)))))]]) := hD
    refine lv_goto (tgt := 21) hx hb dL_keyAt_10 (by decide) ?_
    refine lv_iconst (v := (0 : Int32)) hx hb dL_keyAt_21 (by decide) ?_
    exact w_ret (u := ((0 : Int32), (vp_updL ow (0 : Int32).toNatClampNeg (((f_X9_keyAt q v x y).2).toInt64)))) hx hb hr hlk rfl hS rfl hF.symm hP hD (Nat.le_of_ble_eq_true rfl) (Nat.le_of_ble_eq_true rfl) dL_keyAt_22
theorem dL_doorsOfRing_0 : decode cL_doorsOfRing 0 = .ok (.aload_n 2, 1) := by decide +kernel
theorem dL_doorsOfRing_1 : decode cL_doorsOfRing 1 = .ok (.iconst 0, 1) := by decide +kernel
theorem dL_doorsOfRing_2 : decode cL_doorsOfRing 2 = .ok (.aload_n 0, 1) := by decide +kernel
theorem dL_doorsOfRing_3 : decode cL_doorsOfRing 3 = .ok (.iload_n 1, 1) := by decide +kernel
theorem dL_doorsOfRing_4 : decode cL_doorsOfRing 4 = .ok (.invokevirtual 83, 3) := by decide +kernel
theorem u_956 : Cond.methodLink RL 83 yX9_doorsOfRing ∈ UW := uw 956 (by decide +kernel) rfl
theorem u_957 : Cond.instanceMethod yX9_doorsOfRing ∈ UW := uw 957 (by decide +kernel) rfl
theorem u_958 : Cond.selects RX9 yX9_doorsOfRing yX9_doorsOfRing ∈ UW := uw 958 (by decide +kernel) rfl
theorem u_959 : Cond.code yX9_doorsOfRing cX9_doorsOfRing 2 (some .int) ∈ UW := uw 959 (by decide +kernel) rfl
theorem g_L_83 : GoodIn UW (wsV RL 83 RX9 yX9_doorsOfRing (wsU yX9_doorsOfRing cX9_doorsOfRing 2 (some .int))) := gV u_956 u_957 u_958 u_65 u_959
theorem hdv_X9_doorsOfRing : yX9_doorsOfRing.cls = RX9 ∧ yX9_doorsOfRing.cls ≠ "java/lang/invoke/MethodHandle" ∧ yX9_doorsOfRing.cls ≠ "java/lang/invoke/VarHandle" ∧ (parseMethodDescriptor yX9_doorsOfRing.desc).map (fun d => d.parameters.length) = some 1 := by decide +kernel
theorem dL_doorsOfRing_12 : decode cL_doorsOfRing 12 = .ok (.astore_n 3, 1) := by decide +kernel
theorem dL_doorsOfRing_13 : decode cL_doorsOfRing 13 = .ok (.iconst 1, 1) := by decide +kernel
theorem dL_doorsOfRing_14 : decode cL_doorsOfRing 14 = .ok (.ireturn, 1) := by decide +kernel
theorem dL_doorsOfRing_7 : decode cL_doorsOfRing 7 = .ok (.i2l, 1) := by decide +kernel
theorem dL_doorsOfRing_8 : decode cL_doorsOfRing 8 = .ok (.lastore, 1) := by decide +kernel
theorem dL_doorsOfRing_9 : decode cL_doorsOfRing 9 = .ok (.goto 6, 3) := by decide +kernel
theorem dL_doorsOfRing_15 : decode cL_doorsOfRing 15 = .ok (.iconst 0, 1) := by decide +kernel
theorem dL_doorsOfRing_16 : decode cL_doorsOfRing 16 = .ok (.ireturn, 1) := by decide +kernel
def f_L_doorsOfRing (q : McV) (v : StV) (x : Int32) (ow : Nat → Int64) : Int32 × (Nat → Int64) := (if (f_X9_doorsOfRing q v x).1 = "" then ((0 : Int32), (vp_updL ow (0 : Int32).toNatClampNeg (((f_X9_doorsOfRing q v x).2).toInt64))) else (if (f_X9_doorsOfRing q v x).1 = "java/lang/IndexOutOfBoundsException" then ((1 : Int32), ow) else (0, ow)))
def ok_L_doorsOfRing (q : McV) (v : StV) (x : Int32) (ow : Nat → Int64) : Prop := (if (f_X9_doorsOfRing q v x).1 = "" then True else (if (f_X9_doorsOfRing q v x).1 = "java/lang/IndexOutOfBoundsException" then True else False))
set_option maxHeartbeats 8000000 in
set_option maxRecDepth 100000 in
set_option linter.constructorNameAsVariable false in
theorem c_L_doorsOfRing (l : Launch) (hlf : l.stackTraces = false) (G : GG) (qh0 : Nat) (q_snapshot : Nat) (q_history : Nat) (q_program : Nat) (q_notice : Nat) (va : Nat → Nat) (owh : Nat) (sz : Nat) (q : McV) (v : StV) (x : Int32) (ow : Nat → Int64) (hok : ok_L_doorsOfRing q v x ow) : wMetH l yL_doorsOfRing cL_doorsOfRing 4 (some .int) [(0, 9, 12, 21)] 10 1 6 G (fl [[(qh0, .inr (11, [.ref (va 0), .ref q_snapshot, .int q.1, .ref q_history, .ref q_program, .ref q_notice, .int q.2.1, .int q.2.2]))], wSt G va v, [(owh, .inl (G.2.1 3, 1, .inr (.inl ow)))]]) [.ref qh0, .int x, .ref owh] sz (fun u : Int32 × (Nat → Int64) => some (.int u.1)) (fun u : Int32 × (Nat → Int64) => u = f_L_doorsOfRing q v x ow) (fun u : Int32 × (Nat → Int64) => fl [[(qh0, .inr (11, [.ref (va 0), .ref q_snapshot, .int q.1, .ref q_history, .ref q_program, .ref q_notice, .int q.2.1, .int q.2.2]))], wSt G va v, [(owh, .inl (G.2.1 3, 1, .inr (.inl u.2)))]]) := by
  refine w_startH (by decide +kernel) (Nat.le_of_ble_eq_true rfl) ?_
  intro p e s m below meth c A hx hb hr hml hts hown hlk hin hxt hP hD hA hK hST ls hl
  have hS : va_S A s.heap s.heap [] := va_S.rf
  have hown : s.vm.findClass RL = some m.cls := hown
  have hl : lv_has ls 4 [(0, .ref qh0), (1, .int x), (2, .ref owh)] := hl
  have hF : f_L_doorsOfRing q v x ow = (if (f_X9_doorsOfRing q v x).1 = "" then ((0 : Int32), (vp_updL ow (0 : Int32).toNatClampNeg (((f_X9_doorsOfRing q v x).2).toInt64))) else (if (f_X9_doorsOfRing q v x).1 = "java/lang/IndexOutOfBoundsException" then ((1 : Int32), ow) else (0, ow))) := rfl
  have hok : (if (f_X9_doorsOfRing q v x).1 = "" then True else (if (f_X9_doorsOfRing q v x).1 = "java/lang/IndexOutOfBoundsException" then True else False)) := hok
  refine lv_aload_n hx hb dL_doorsOfRing_0 rfl (lv_at hl 2 rfl) ?_
  refine lv_iconst (v := (0 : Int32)) hx hb dL_doorsOfRing_1 (by decide) ?_
  refine lv_aload_n hx hb dL_doorsOfRing_2 rfl (lv_at hl 0 rfl) ?_
  refine lv_iload_n hx hb dL_doorsOfRing_3 rfl (lv_at hl 1 rfl) ?_
  refine xr_V (own := RL) (v := (some (.int ((f_X9_doorsOfRing q v x).2)))) (st1 := [.int ((f_X9_doorsOfRing q v x).2), .int (0 : Int32), .ref owh]) (As := [.int x]) (rest := [.int (0 : Int32), .ref owh]) (c_X9_doorsOfRingS l hlf G qh0 q_snapshot q_history q_program q_notice va q v x) ⟨hx, hb, hml, hown, hts⟩ g_L_83 hdv_X9_doorsOfRing hK hST hS hP [0, 1, 2, 3, 4, 5, 6, 7, 8, 9, 10, 11, 12, 13, 14, 15, 16, 17, 18, 19, 20] rfl (k0 := 0) rfl rfl rfl ⟨Nat.le_of_ble_eq_true rfl, Nat.le_of_ble_eq_true rfl⟩ ⟨Nat.le_of_ble_eq_true rfl, Nat.le_of_ble_eq_true rfl⟩ rfl hl.1 rfl (Nat.le_of_ble_eq_true rfl) dL_doorsOfRing_4 rfl (fun E ce q9 H hE h1 h2 h3 h4 h5 => ?_) (fun b_1 => ?_)
  · have hF := hF.trans (if_neg (fun e => hE.2 (hE.1.trans e)))
    have hok := Eq.mp (if_neg (fun e => hE.2 (hE.1.trans e))) hok
    have hP := hP.kept (fun k q hk => h2 q.1 ((hP k q hk).lt))
    have hS : va_S A s.heap H _ := ⟨Nat.le_trans hS.1 h1, fun q hq hA => (h2 q (Nat.lt_of_lt_of_le hq hS.1)).trans (hS.2.1 q hq hA), hS.2.2⟩
    by_cases c_2 : (f_X9_doorsOfRing q v x).1 = "java/lang/IndexOutOfBoundsException"
    · have hF := hF.trans (if_pos c_2)
      have hok := Eq.mp (if_pos c_2) hok
      have hEE : E = "java/lang/IndexOutOfBoundsException" := hE.1.trans c_2
      subst hEE
      refine vx_catch (own := RL) (name := "java/lang/IndexOutOfBoundsException") hown [] (⟨0, 9, 12, 21⟩ : ExceptionTableEntry) [] (hxt.trans rfl) (fun z hz => nomatch hz) (by decide) (by decide) (hts _ u_608) (va_tabs rfl rfl (hST.2.2.2.2.2.2.2.1 _ cst_IndexOutOfBoundsException)) h3 h4 h5 ?_
      refine W.eq (g2 := F0 m 12 ls [.ref q9]) rfl ?_
      refine lv_astore_n (lv' := [(3, .ref q9), (0, .ref qh0), (1, .int x), (2, .ref owh)]) hx hb dL_doorsOfRing_12 rfl hl (by decide) rfl (fun ls hl => ?_)
      refine lv_iconst (v := (1 : Int32)) hx hb dL_doorsOfRing_13 (by decide) ?_
      exact w_ret (u := ((1 : Int32), ow)) hx hb hr hlk rfl hS rfl hF.symm hP hD (Nat.le_of_ble_eq_true rfl) (Nat.le_of_ble_eq_true rfl) dL_doorsOfRing_14
    · have hF := hF.trans (if_neg c_2)
      have hok := Eq.mp (if_neg c_2) hok
      exact hok.elim
  · have hE := b_1.1
    have b_1 := b_1.2
    have hF := hF.trans (if_pos hE)
    have hok := Eq.mp (if_pos hE) hok
    refine lv_i2l hx hb dL_doorsOfRing_7 rfl ?_
    refine va_last hx hb hK hP hD hS 21 3 rfl rfl (vp_in_nI (n := 0) (by decide) (by decide)) dL_doorsOfRing_8 (fun H locs hP hD hS => ?_)
    have hP : va_P G.1 vwCl (fl [[(qh0, .inr (11, [.ref (va 0), .ref q_snapshot, .int q.1, .ref q_history, .ref q_program, .ref q_notice, .int q.2.1, .int q.2.2]))], wSt G va v, [(owh, .inl (G.2.1 3, 1, .inr (.inl (vp_updL ow (0 : Int32).toNatClampNeg (((f_X9_doorsOfRing q v x).2).toInt64)))))]]) H := hP
    have hD : va_D A (fl [[(qh0, .inr (11, [.ref (va 0), .ref q_snapshot, .int q.1, .ref q_history, .ref q_program, .ref q_notice, .int q.2.1, .int q.2.2]))], wSt G va v, [(owh, .inl (G.2.1 3, 1, .inr (.inl (vp_updL ow (0 : Int32).toNatClampNeg (((f_X9_doorsOfRing q v x).2).toInt64)))))]]) := hD
    refine lv_goto (tgt := 15) hx hb dL_doorsOfRing_9 (by decide) ?_
    refine lv_iconst (v := (0 : Int32)) hx hb dL_doorsOfRing_15 (by decide) ?_
    exact w_ret (u := ((0 : Int32), (vp_updL ow (0 : Int32).toNatClampNeg (((f_X9_doorsOfRing q v x).2).toInt64)))) hx hb hr hlk rfl hS rfl hF.symm hP hD (Nat.le_of_ble_eq_true rfl) (Nat.le_of_ble_eq_true rfl) dL_doorsOfRing_16
theorem dL_personByEntries_0 : decode cL_personByEntries 0 = .ok (.aload_n 2, 1) := by decide +kernel
theorem dL_personByEntries_1 : decode cL_personByEntries 1 = .ok (.iconst 0, 1) := by decide +kernel
theorem dL_personByEntries_2 : decode cL_personByEntries 2 = .ok (.aload_n 0, 1) := by decide +kernel
theorem dL_personByEntries_3 : decode cL_personByEntries 3 = .ok (.iload_n 1, 1) := by decide +kernel
theorem dL_personByEntries_4 : decode cL_personByEntries 4 = .ok (.invokevirtual 86, 3) := by decide +kernel
theorem u_967 : Cond.methodLink RL 86 yX9_personByEntries ∈ UW := uw 967 (by decide +kernel) rfl
theorem u_968 : Cond.instanceMethod yX9_personByEntries ∈ UW := uw 968 (by decide +kernel) rfl
theorem u_969 : Cond.selects RX9 yX9_personByEntries yX9_personByEntries ∈ UW := uw 969 (by decide +kernel) rfl
theorem u_970 : Cond.code yX9_personByEntries cX9_personByEntries 2 (some .int) ∈ UW := uw 970 (by decide +kernel) rfl
theorem g_L_86 : GoodIn UW (wsV RL 86 RX9 yX9_personByEntries (wsU yX9_personByEntries cX9_personByEntries 2 (some .int))) := gV u_967 u_968 u_969 u_65 u_970
theorem hdv_X9_personByEntries : yX9_personByEntries.cls = RX9 ∧ yX9_personByEntries.cls ≠ "java/lang/invoke/MethodHandle" ∧ yX9_personByEntries.cls ≠ "java/lang/invoke/VarHandle" ∧ (parseMethodDescriptor yX9_personByEntries.desc).map (fun d => d.parameters.length) = some 1 := by decide +kernel
theorem dL_personByEntries_12 : decode cL_personByEntries 12 = .ok (.astore_n 3, 1) := by decide +kernel
theorem dL_personByEntries_13 : decode cL_personByEntries 13 = .ok (.iconst 1, 1) := by decide +kernel
theorem dL_personByEntries_14 : decode cL_personByEntries 14 = .ok (.ireturn, 1) := by decide +kernel
theorem dL_personByEntries_7 : decode cL_personByEntries 7 = .ok (.i2l, 1) := by decide +kernel
theorem dL_personByEntries_8 : decode cL_personByEntries 8 = .ok (.lastore, 1) := by decide +kernel
theorem dL_personByEntries_9 : decode cL_personByEntries 9 = .ok (.goto 6, 3) := by decide +kernel
theorem dL_personByEntries_15 : decode cL_personByEntries 15 = .ok (.iconst 0, 1) := by decide +kernel
theorem dL_personByEntries_16 : decode cL_personByEntries 16 = .ok (.ireturn, 1) := by decide +kernel
def f_L_personByEntries (q : McV) (v : StV) (x : Int32) (ow : Nat → Int64) : Int32 × (Nat → Int64) := (if (f_X9_personByEntries q v x).1 = "" then ((0 : Int32), (vp_updL ow (0 : Int32).toNatClampNeg (((f_X9_personByEntries q v x).2).toInt64))) else (if (f_X9_personByEntries q v x).1 = "java/lang/IndexOutOfBoundsException" then ((1 : Int32), ow) else (0, ow)))
def ok_L_personByEntries (q : McV) (v : StV) (x : Int32) (ow : Nat → Int64) : Prop := (if (f_X9_personByEntries q v x).1 = "" then True else (if (f_X9_personByEntries q v x).1 = "java/lang/IndexOutOfBoundsException" then True else False))
set_option maxHeartbeats 8000000 in
set_option maxRecDepth 100000 in
set_option linter.constructorNameAsVariable false in
theorem c_L_personByEntries (l : Launch) (hlf : l.stackTraces = false) (G : GG) (qh0 : Nat) (q_snapshot : Nat) (q_history : Nat) (q_program : Nat) (q_notice : Nat) (va : Nat → Nat) (owh : Nat) (sz : Nat) (q : McV) (v : StV) (x : Int32) (ow : Nat → Int64) (hok : ok_L_personByEntries q v x ow) : wMetH l yL_personByEntries cL_personByEntries 4 (some .int) [(0, 9, 12, 21)] 10 1 6 G (fl [[(qh0, .inr (11, [.ref (va 0), .ref q_snapshot, .int q.1, .ref q_history, .ref q_program, .ref q_notice, .int q.2.1, .int q.2.2]))], wSt G va v, [(owh, .inl (G.2.1 3, 1, .inr (.inl ow)))]]) [.ref qh0, .int x, .ref owh] sz (fun u : Int32 × (Nat → Int64) => some (.int u.1)) (fun u : Int32 × (Nat → Int64) => u = f_L_personByEntries q v x ow) (fun u : Int32 × (Nat → Int64) => fl [[(qh0, .inr (11, [.ref (va 0), .ref q_snapshot, .int q.1, .ref q_history, .ref q_program, .ref q_notice, .int q.2.1, .int q.2.2]))], wSt G va v, [(owh, .inl (G.2.1 3, 1, .inr (.inl u.2)))]]) := by
  refine w_startH (by decide +kernel) (Nat.le_of_ble_eq_true rfl) ?_
  intro p e s m below meth c A hx hb hr hml hts hown hlk hin hxt hP hD hA hK hST ls hl
  have hS : va_S A s.heap s.heap [] := va_S.rf
  have hown : s.vm.findClass RL = some m.cls := hown
  have hl : lv_has ls 4 [(0, .ref qh0), (1, .int x), (2, .ref owh)] := hl
  have hF : f_L_personByEntries q v x ow = (if (f_X9_personByEntries q v x).1 = "" then ((0 : Int32), (vp_updL ow (0 : Int32).toNatClampNeg (((f_X9_personByEntries q v x).2).toInt64))) else (if (f_X9_personByEntries q v x).1 = "java/lang/IndexOutOfBoundsException" then ((1 : Int32), ow) else (0, ow))) := rfl
  have hok : (if (f_X9_personByEntries q v x).1 = "" then True else (if (f_X9_personByEntries q v x).1 = "java/lang/IndexOutOfBoundsException" then True else False)) := hok
  refine lv_aload_n hx hb dL_personByEntries_0 rfl (lv_at hl 2 rfl) ?_
  refine lv_iconst (v := (0 : Int32)) hx hb dL_personByEntries_1 (by decide) ?_
  refine lv_aload_n hx hb dL_personByEntries_2 rfl (lv_at hl 0 rfl) ?_
  refine lv_iload_n hx hb dL_personByEntries_3 rfl (lv_at hl 1 rfl) ?_
  refine xr_V (own := RL) (v := (some (.int ((f_X9_personByEntries q v x).2)))) (st1 := [.int ((f_X9_personByEntries q v x).2), .int (0 : Int32), .ref owh]) (As := [.int x]) (rest := [.int (0 : Int32), .ref owh]) (c_X9_personByEntriesS l hlf G qh0 q_snapshot q_history q_program q_notice va q v x) ⟨hx, hb, hml, hown, hts⟩ g_L_86 hdv_X9_personByEntries hK hST hS hP [0, 1, 2, 3, 4, 5, 6, 7, 8, 9, 10, 11, 12, 13, 14, 15, 16, 17, 18, 19, 20] rfl (k0 := 0) rfl rfl rfl ⟨Nat.le_of_ble_eq_true rfl, Nat.le_of_ble_eq_true rfl⟩ ⟨Nat.le_of_ble_eq_true rfl, Nat.le_of_ble_eq_true rfl⟩ rfl hl.1 rfl (Nat.le_of_ble_eq_true rfl) dL_personByEntries_4 rfl (fun E ce q9 H hE h1 h2 h3 h4 h5 => ?_) (fun b_1 => ?_)
  · have hF := hF.trans (if_neg (fun e => hE.2 (hE.1.trans e)))
    have hok := Eq.mp (if_neg (fun e => hE.2 (hE.1.trans e))) hok
    have hP := hP.kept (fun k q hk => h2 q.1 ((hP k q hk).lt))
    have hS : va_S A s.heap H _ := ⟨Nat.le_trans hS.1 h1, fun q hq hA => (h2 q (Nat.lt_of_lt_of_le hq hS.1)).trans (hS.2.1 q hq hA), hS.2.2⟩
    by_cases c_2 : (f_X9_personByEntries q v x).1 = "java/lang/IndexOutOfBoundsException"
    · have hF := hF.trans (if_pos c_2)
      have hok := Eq.mp (if_pos c_2) hok
      have hEE : E = "java/lang/IndexOutOfBoundsException" := hE.1.trans c_2
      subst hEE
      refine vx_catch (own := RL) (name := "java/lang/IndexOutOfBoundsException") hown [] (⟨0, 9, 12, 21⟩ : ExceptionTableEntry) [] (hxt.trans rfl) (fun z hz => nomatch hz) (by decide) (by decide) (hts _ u_608) (va_tabs rfl rfl (hST.2.2.2.2.2.2.2.1 _ cst_IndexOutOfBoundsException)) h3 h4 h5 ?_
      refine W.eq (g2 := F0 m 12 ls [.ref q9]) rfl ?_
      refine lv_astore_n (lv' := [(3, .ref q9), (0, .ref qh0), (1, .int x), (2, .ref owh)]) hx hb dL_personByEntries_12 rfl hl (by decide) rfl (fun ls hl => ?_)
      refine lv_iconst (v := (1 : Int32)) hx hb dL_personByEntries_13 (by decide) ?_
      exact w_ret (u := ((1 : Int32), ow)) hx hb hr hlk rfl hS rfl hF.symm hP hD (Nat.le_of_ble_eq_true rfl) (Nat.le_of_ble_eq_true rfl) dL_personByEntries_14
    · have hF := hF.trans (if_neg c_2)
      have hok := Eq.mp (if_neg c_2) hok
      exact hok.elim
  · have hE := b_1.1
    have b_1 := b_1.2
    have hF := hF.trans (if_pos hE)
    have hok := Eq.mp (if_pos hE) hok
    refine lv_i2l hx hb dL_personByEntries_7 rfl ?_
    refine va_last hx hb hK hP hD hS 21 3 rfl rfl (vp_in_nI (n := 0) (by decide) (by decide)) dL_personByEntries_8 (fun H locs hP hD hS => ?_)
    have hP : va_P G.1 vwCl (fl [[(qh0, .inr (11, [.ref (va 0), .ref q_snapshot, .int q.1, .ref q_history, .ref q_program, .ref q_notice, .int q.2.1, .int q.2.2]))], wSt G va v, [(owh, .inl (G.2.1 3, 1, .inr (.inl (vp_updL ow (0 : Int32).toNatClampNeg (((f_X9_personByEntries q v x).2).toInt64)))))]]) H := hP
    have hD : va_D A (fl [[(qh0, .inr (11, [.ref (va 0), .ref q_snapshot, .int q.1, .ref q_history, .ref q_program, .ref q_notice, .int q.2.1, .int q.2.2]))], wSt G va v, [(owh, .inl (G.2.1 3, 1, .inr (.inl (vp_updL ow (0 : Int32).toNatClampNeg (((f_X9_personByEntries q v x).2).toInt64)))))]]) := hD
    refine lv_goto (tgt := 15) hx hb dL_personByEntries_9 (by decide) ?_
    refine lv_iconst (v := (0 : Int32)) hx hb dL_personByEntries_15 (by decide) ?_
    exact w_ret (u := ((0 : Int32), (vp_updL ow (0 : Int32).toNatClampNeg (((f_X9_personByEntries q v x).2).toInt64)))) hx hb hr hlk rfl hS rfl hF.symm hP hD (Nat.le_of_ble_eq_true rfl) (Nat.le_of_ble_eq_true rfl) dL_personByEntries_16
theorem dL_entriesOf_0 : decode cL_entriesOf 0 = .ok (.aload_n 2, 1) := by decide +kernel
theorem dL_entriesOf_1 : decode cL_entriesOf 1 = .ok (.iconst 0, 1) := by decide +kernel
theorem dL_entriesOf_2 : decode cL_entriesOf 2 = .ok (.aload_n 0, 1) := by decide +kernel
theorem dL_entriesOf_3 : decode cL_entriesOf 3 = .ok (.iload_n 1, 1) := by decide +kernel
theorem dL_entriesOf_4 : decode cL_entriesOf 4 = .ok (.invokevirtual 89, 3) := by decide +kernel
theorem u_982 : Cond.methodLink RL 89 yX9_entriesOf ∈ UW := uw 982 (by decide +kernel) rfl
theorem u_983 : Cond.instanceMethod yX9_entriesOf ∈ UW := uw 983 (by decide +kernel) rfl
theorem u_984 : Cond.selects RX9 yX9_entriesOf yX9_entriesOf ∈ UW := uw 984 (by decide +kernel) rfl
theorem u_985 : Cond.code yX9_entriesOf cX9_entriesOf 2 (some .int) ∈ UW := uw 985 (by decide +kernel) rfl
theorem g_L_89 : GoodIn UW (wsV RL 89 RX9 yX9_entriesOf (wsU yX9_entriesOf cX9_entriesOf 2 (some .int))) := gV u_982 u_983 u_984 u_65 u_985
theorem hdv_X9_entriesOf : yX9_entriesOf.cls = RX9 ∧ yX9_entriesOf.cls ≠ "java/lang/invoke/MethodHandle" ∧ yX9_entriesOf.cls ≠ "java/lang/invoke/VarHandle" ∧ (parseMethodDescriptor yX9_entriesOf.desc).map (fun d => d.parameters.length) = some 1 := by decide +kernel
theorem dL_entriesOf_12 : decode cL_entriesOf 12 = .ok (.astore_n 3, 1) := by decide +kernel
theorem dL_entriesOf_13 : decode cL_entriesOf 13 = .ok (.iconst 1, 1) := by decide +kernel
theorem dL_entriesOf_14 : decode cL_entriesOf 14 = .ok (.ireturn, 1) := by decide +kernel
theorem dL_entriesOf_7 : decode cL_entriesOf 7 = .ok (.i2l, 1) := by decide +kernel
theorem dL_entriesOf_8 : decode cL_entriesOf 8 = .ok (.lastore, 1) := by decide +kernel
theorem dL_entriesOf_9 : decode cL_entriesOf 9 = .ok (.goto 6, 3) := by decide +kernel
theorem dL_entriesOf_15 : decode cL_entriesOf 15 = .ok (.iconst 0, 1) := by decide +kernel
theorem dL_entriesOf_16 : decode cL_entriesOf 16 = .ok (.ireturn, 1) := by decide +kernel
def f_L_entriesOf (q : McV) (v : StV) (x : Int32) (ow : Nat → Int64) : Int32 × (Nat → Int64) := (if (f_X9_entriesOf q v x).1 = "" then ((0 : Int32), (vp_updL ow (0 : Int32).toNatClampNeg (((f_X9_entriesOf q v x).2).toInt64))) else (if (f_X9_entriesOf q v x).1 = "java/lang/IndexOutOfBoundsException" then ((1 : Int32), ow) else (0, ow)))
def ok_L_entriesOf (q : McV) (v : StV) (x : Int32) (ow : Nat → Int64) : Prop := (if (f_X9_entriesOf q v x).1 = "" then True else (if (f_X9_entriesOf q v x).1 = "java/lang/IndexOutOfBoundsException" then True else False))
set_option maxHeartbeats 8000000 in
set_option maxRecDepth 100000 in
set_option linter.constructorNameAsVariable false in
theorem c_L_entriesOf (l : Launch) (hlf : l.stackTraces = false) (G : GG) (qh0 : Nat) (q_snapshot : Nat) (q_history : Nat) (q_program : Nat) (q_notice : Nat) (va : Nat → Nat) (owh : Nat) (sz : Nat) (q : McV) (v : StV) (x : Int32) (ow : Nat → Int64) (hok : ok_L_entriesOf q v x ow) : wMetH l yL_entriesOf cL_entriesOf 4 (some .int) [(0, 9, 12, 21)] 10 1 6 G (fl [[(qh0, .inr (11, [.ref (va 0), .ref q_snapshot, .int q.1, .ref q_history, .ref q_program, .ref q_notice, .int q.2.1, .int q.2.2]))], wSt G va v, [(owh, .inl (G.2.1 3, 1, .inr (.inl ow)))]]) [.ref qh0, .int x, .ref owh] sz (fun u : Int32 × (Nat → Int64) => some (.int u.1)) (fun u : Int32 × (Nat → Int64) => u = f_L_entriesOf q v x ow) (fun u : Int32 × (Nat → Int64) => fl [[(qh0, .inr (11, [.ref (va 0), .ref q_snapshot, .int q.1, .ref q_history, .ref q_program, .ref q_notice, .int q.2.1, .int q.2.2]))], wSt G va v, [(owh, .inl (G.2.1 3, 1, .inr (.inl u.2)))]]) := by
  refine w_startH (by decide +kernel) (Nat.le_of_ble_eq_true rfl) ?_
  intro p e s m below meth c A hx hb hr hml hts hown hlk hin hxt hP hD hA hK hST ls hl
  have hS : va_S A s.heap s.heap [] := va_S.rf
  have hown : s.vm.findClass RL = some m.cls := hown
  have hl : lv_has ls 4 [(0, .ref qh0), (1, .int x), (2, .ref owh)] := hl
  have hF : f_L_entriesOf q v x ow = (if (f_X9_entriesOf q v x).1 = "" then ((0 : Int32), (vp_updL ow (0 : Int32).toNatClampNeg (((f_X9_entriesOf q v x).2).toInt64))) else (if (f_X9_entriesOf q v x).1 = "java/lang/IndexOutOfBoundsException" then ((1 : Int32), ow) else (0, ow))) := rfl
  have hok : (if (f_X9_entriesOf q v x).1 = "" then True else (if (f_X9_entriesOf q v x).1 = "java/lang/IndexOutOfBoundsException" then True else False)) := hok
  refine lv_aload_n hx hb dL_entriesOf_0 rfl (lv_at hl 2 rfl) ?_
  refine lv_iconst (v := (0 : Int32)) hx hb dL_entriesOf_1 (by decide) ?_
  refine lv_aload_n hx hb dL_entriesOf_2 rfl (lv_at hl 0 rfl) ?_
  refine lv_iload_n hx hb dL_entriesOf_3 rfl (lv_at hl 1 rfl) ?_
  refine xr_V (own := RL) (v := (some (.int ((f_X9_entriesOf q v x).2)))) (st1 := [.int ((f_X9_entriesOf q v x).2), .int (0 : Int32), .ref owh]) (As := [.int x]) (rest := [.int (0 : Int32), .ref owh]) (c_X9_entriesOfS l hlf G qh0 q_snapshot q_history q_program q_notice va q v x) ⟨hx, hb, hml, hown, hts⟩ g_L_89 hdv_X9_entriesOf hK hST hS hP [0, 1, 2, 3, 4, 5, 6, 7, 8, 9, 10, 11, 12, 13, 14, 15, 16, 17, 18, 19, 20] rfl (k0 := 0) rfl rfl rfl ⟨Nat.le_of_ble_eq_true rfl, Nat.le_of_ble_eq_true rfl⟩ ⟨Nat.le_of_ble_eq_true rfl, Nat.le_of_ble_eq_true rfl⟩ rfl hl.1 rfl (Nat.le_of_ble_eq_true rfl) dL_entriesOf_4 rfl (fun E ce q9 H hE h1 h2 h3 h4 h5 => ?_) (fun b_1 => ?_)
  · have hF := hF.trans (if_neg (fun e => hE.2 (hE.1.trans e)))
    have hok := Eq.mp (if_neg (fun e => hE.2 (hE.1.trans e))) hok
    have hP := hP.kept (fun k q hk => h2 q.1 ((hP k q hk).lt))
    have hS : va_S A s.heap H _ := ⟨Nat.le_trans hS.1 h1, fun q hq hA => (h2 q (Nat.lt_of_lt_of_le hq hS.1)).trans (hS.2.1 q hq hA), hS.2.2⟩
    by_cases c_2 : (f_X9_entriesOf q v x).1 = "java/lang/IndexOutOfBoundsException"
    · have hF := hF.trans (if_pos c_2)
      have hok := Eq.mp (if_pos c_2) hok
      have hEE : E = "java/lang/IndexOutOfBoundsException" := hE.1.trans c_2
      subst hEE
      refine vx_catch (own := RL) (name := "java/lang/IndexOutOfBoundsException") hown [] (⟨0, 9, 12, 21⟩ : ExceptionTableEntry) [] (hxt.trans rfl) (fun z hz => nomatch hz) (by decide) (by decide) (hts _ u_608) (va_tabs rfl rfl (hST.2.2.2.2.2.2.2.1 _ cst_IndexOutOfBoundsException)) h3 h4 h5 ?_
      refine W.eq (g2 := F0 m 12 ls [.ref q9]) rfl ?_
      refine lv_astore_n (lv' := [(3, .ref q9), (0, .ref qh0), (1, .int x), (2, .ref owh)]) hx hb dL_entriesOf_12 rfl hl (by decide) rfl (fun ls hl => ?_)
      refine lv_iconst (v := (1 : Int32)) hx hb dL_entriesOf_13 (by decide) ?_
      exact w_ret (u := ((1 : Int32), ow)) hx hb hr hlk rfl hS rfl hF.symm hP hD (Nat.le_of_ble_eq_true rfl) (Nat.le_of_ble_eq_true rfl) dL_entriesOf_14
    · have hF := hF.trans (if_neg c_2)
      have hok := Eq.mp (if_neg c_2) hok
      exact hok.elim
  · have hE := b_1.1
    have b_1 := b_1.2
    have hF := hF.trans (if_pos hE)
    have hok := Eq.mp (if_pos hE) hok
    refine lv_i2l hx hb dL_entriesOf_7 rfl ?_
    refine va_last hx hb hK hP hD hS 21 3 rfl rfl (vp_in_nI (n := 0) (by decide) (by decide)) dL_entriesOf_8 (fun H locs hP hD hS => ?_)
    have hP : va_P G.1 vwCl (fl [[(qh0, .inr (11, [.ref (va 0), .ref q_snapshot, .int q.1, .ref q_history, .ref q_program, .ref q_notice, .int q.2.1, .int q.2.2]))], wSt G va v, [(owh, .inl (G.2.1 3, 1, .inr (.inl (vp_updL ow (0 : Int32).toNatClampNeg (((f_X9_entriesOf q v x).2).toInt64)))))]]) H := hP
    have hD : va_D A (fl [[(qh0, .inr (11, [.ref (va 0), .ref q_snapshot, .int q.1, .ref q_history, .ref q_program, .ref q_notice, .int q.2.1, .int q.2.2]))], wSt G va v, [(owh, .inl (G.2.1 3, 1, .inr (.inl (vp_updL ow (0 : Int32).toNatClampNeg (((f_X9_entriesOf q v x).2).toInt64)))))]]) := hD
    refine lv_goto (tgt := 15) hx hb dL_entriesOf_9 (by decide) ?_
    refine lv_iconst (v := (0 : Int32)) hx hb dL_entriesOf_15 (by decide) ?_
    exact w_ret (u := ((0 : Int32), (vp_updL ow (0 : Int32).toNatClampNeg (((f_X9_entriesOf q v x).2).toInt64)))) hx hb hr hlk rfl hS rfl hF.symm hP hD (Nat.le_of_ble_eq_true rfl) (Nat.le_of_ble_eq_true rfl) dL_entriesOf_16
theorem dL_advance_0 : decode cL_advance 0 = .ok (.aload_n 2, 1) := by decide +kernel
theorem dL_advance_1 : decode cL_advance 1 = .ok (.iconst 0, 1) := by decide +kernel
theorem dL_advance_2 : decode cL_advance 2 = .ok (.aload_n 0, 1) := by decide +kernel
theorem dL_advance_3 : decode cL_advance 3 = .ok (.iload_n 1, 1) := by decide +kernel
theorem dL_advance_4 : decode cL_advance 4 = .ok (.invokevirtual 92, 3) := by decide +kernel
theorem u_993 : Cond.methodLink RL 92 yX9_advance ∈ UW := uw 993 (by decide +kernel) rfl
theorem u_994 : Cond.instanceMethod yX9_advance ∈ UW := uw 994 (by decide +kernel) rfl
theorem u_995 : Cond.selects RX9 yX9_advance yX9_advance ∈ UW := uw 995 (by decide +kernel) rfl
theorem u_996 : Cond.code yX9_advance cX9_advance 2 (some .int) ∈ UW := uw 996 (by decide +kernel) rfl
theorem g_L_92 : GoodIn UW (wsV RL 92 RX9 yX9_advance (wsU yX9_advance cX9_advance 2 (some .int))) := gV u_993 u_994 u_995 u_65 u_996
theorem hdv_X9_advance : yX9_advance.cls = RX9 ∧ yX9_advance.cls ≠ "java/lang/invoke/MethodHandle" ∧ yX9_advance.cls ≠ "java/lang/invoke/VarHandle" ∧ (parseMethodDescriptor yX9_advance.desc).map (fun d => d.parameters.length) = some 1 := by decide +kernel
theorem dL_advance_7 : decode cL_advance 7 = .ok (.i2l, 1) := by decide +kernel
theorem dL_advance_8 : decode cL_advance 8 = .ok (.lastore, 1) := by decide +kernel
theorem dL_advance_9 : decode cL_advance 9 = .ok (.goto 6, 3) := by decide +kernel
theorem dL_advance_15 : decode cL_advance 15 = .ok (.iconst 0, 1) := by decide +kernel
theorem dL_advance_16 : decode cL_advance 16 = .ok (.ireturn, 1) := by decide +kernel
theorem dL_advance_12 : decode cL_advance 12 = .ok (.astore_n 3, 1) := by decide +kernel
theorem dL_advance_13 : decode cL_advance 13 = .ok (.iconst 1, 1) := by decide +kernel
theorem dL_advance_14 : decode cL_advance 14 = .ok (.ireturn, 1) := by decide +kernel
def f_L_advance (q : McV) (v : StV) (hi : HiV) (hs : Nat → StV) (ho : Int32) (ow : Nat → Int64) : Int32 × StV × HiV × (Nat → StV) × (Nat → Int64) := (let u_3 : String × Int32 × StV × HiV × (Nat → StV) := (f_X9_advance q v hi hs ho); (if u_3.1 = "" then ((0 : Int32), u_3.2.2.1, u_3.2.2.2.1, u_3.2.2.2.2, (vp_updL ow (0 : Int32).toNatClampNeg u_3.2.1.toInt64)) else (if (f_X9_advance q v hi hs ho).1 = "java/lang/IllegalArgumentException" then ((1 : Int32), v, hi, hs, ow) else (0, v, hi, hs, ow))))
def ok_L_advance (q : McV) (v : StV) (hi : HiV) (hs : Nat → StV) (ho : Int32) (ow : Nat → Int64) : Prop := (nx9 hi.2 ∧ (let u_3 : String × Int32 × StV × HiV × (Nat → StV) := (f_X9_advance q v hi hs ho); (if u_3.1 = "" then True else (if (f_X9_advance q v hi hs ho).1 = "java/lang/IllegalArgumentException" then True else False))))
set_option maxHeartbeats 8000000 in
set_option maxRecDepth 100000 in
set_option linter.constructorNameAsVariable false in
theorem c_L_advance (l : Launch) (hlf : l.stackTraces = false) (G : GG) (qh0 : Nat) (q_snapshot : Nat) (q_program : Nat) (q_notice : Nat) (va : Nat → Nat) (hih0 : Nat) (hsh : Nat) (hsa : Nat → Nat → Nat) (owh : Nat) (sz : Nat) (q : McV) (v : StV) (hi : HiV) (hs : Nat → StV) (ho : Int32) (ow : Nat → Int64) (hok : ok_L_advance q v hi hs ho ow) : wMetH l yL_advance cL_advance 4 (some .int) [(0, 9, 12, 13)] 10 1 6 G (fl [[(qh0, .inr (11, [.ref (va 0), .ref q_snapshot, .int q.1, .ref hih0, .ref q_program, .ref q_notice, .int q.2.1, .int q.2.2]))], wSt G va v, [(hih0, .inr (7, [.int hi.1, .int hi.2, .ref hsh]))], wHs G hsh hsa hs, [(owh, .inl (G.2.1 3, 1, .inr (.inl ow)))]]) [.ref qh0, .int ho, .ref owh] sz (fun u : Int32 × StV × HiV × (Nat → StV) × (Nat → Int64) => some (.int u.1)) (fun u : Int32 × StV × HiV × (Nat → StV) × (Nat → Int64) => u = f_L_advance q v hi hs ho ow) (fun u : Int32 × StV × HiV × (Nat → StV) × (Nat → Int64) => fl [[(qh0, .inr (11, [.ref (va 0), .ref q_snapshot, .int q.1, .ref hih0, .ref q_program, .ref q_notice, .int q.2.1, .int q.2.2]))], wSt G va u.2.1, [(hih0, .inr (7, [.int u.2.2.1.1, .int u.2.2.1.2, .ref hsh]))], wHs G hsh hsa u.2.2.2.1, [(owh, .inl (G.2.1 3, 1, .inr (.inl u.2.2.2.2)))]]) := by
  refine w_startH (by decide +kernel) (Nat.le_of_ble_eq_true rfl) ?_
  intro p e s m below meth c A hx hb hr hml hts hown hlk hin hxt hP hD hA hK hST ls hl
  have hS : va_S A s.heap s.heap [] := va_S.rf
  have hown : s.vm.findClass RL = some m.cls := hown
  have hl : lv_has ls 4 [(0, .ref qh0), (1, .int ho), (2, .ref owh)] := hl
  have hF : f_L_advance q v hi hs ho ow = (let u_3 : String × Int32 × StV × HiV × (Nat → StV) := (f_X9_advance q v hi hs ho); (if u_3.1 = "" then ((0 : Int32), u_3.2.2.1, u_3.2.2.2.1, u_3.2.2.2.2, (vp_updL ow (0 : Int32).toNatClampNeg u_3.2.1.toInt64)) else (if (f_X9_advance q v hi hs ho).1 = "java/lang/IllegalArgumentException" then ((1 : Int32), v, hi, hs, ow) else (0, v, hi, hs, ow)))) := rfl
  have hok : (nx9 hi.2 ∧ (let u_3 : String × Int32 × StV × HiV × (Nat → StV) := (f_X9_advance q v hi hs ho); (if u_3.1 = "" then True else (if (f_X9_advance q v hi hs ho).1 = "java/lang/IllegalArgumentException" then True else False)))) := hok
  refine lv_aload_n hx hb dL_advance_0 rfl (lv_at hl 2 rfl) ?_
  refine lv_iconst (v := (0 : Int32)) hx hb dL_advance_1 (by decide) ?_
  refine lv_aload_n hx hb dL_advance_2 rfl (lv_at hl 0 rfl) ?_
  refine lv_iload_n hx hb dL_advance_3 rfl (lv_at hl 1 rfl) ?_
  have k_1 := hok.1
  have hok := hok.2
  refine xw_V (own := RL) (cs := [[(qh0, .inr (11, [.ref (va 0), .ref q_snapshot, .int q.1, .ref hih0, .ref q_program, .ref q_notice, .int q.2.1, .int q.2.2]))], wSt G va v, [(hih0, .inr (7, [.int hi.1, .int hi.2, .ref hsh]))], wHs G hsh hsa hs]) (rs := [[(owh, .inl (G.2.1 3, 1, .inr (.inl ow)))]]) (As := [.int ho]) (rest := [.int (0 : Int32), .ref owh]) (c_X9_advanceS l hlf G qh0 q_snapshot q_program q_notice va hih0 hsh hsa s.heap.size q v hi hs ho k_1) ⟨hx, hb, hml, hown, hts⟩ g_L_92 hdv_X9_advance hK hST hS hP hD hA [0, 1, 2, 3] [4] rfl rfl rfl (k0 := 0) rfl rfl rfl ⟨Nat.le_of_ble_eq_true rfl, Nat.le_of_ble_eq_true rfl⟩ ⟨Nat.le_of_ble_eq_true rfl, Nat.le_of_ble_eq_true rfl⟩ rfl hl.1 rfl (Nat.le_of_ble_eq_true rfl) dL_advance_4 (fun E ce q9 H locs hE hP hS h3 h4 h5 => ?_) (fun u_3 H locs huu hP hD hS => ?_)
  rotate_left
  obtain ⟨huu, b_2⟩ := huu
  rw [← huu] at b_2
  have eu_3 := huu
  have hP : va_P G.1 vwCl (fl [[(qh0, .inr (11, [.ref (va 0), .ref q_snapshot, .int q.1, .ref hih0, .ref q_program, .ref q_notice, .int q.2.1, .int q.2.2]))], wSt G va u_3.2.2.1, [(hih0, .inr (7, [.int u_3.2.2.2.1.1, .int u_3.2.2.2.1.2, .ref hsh]))], wHs G hsh hsa u_3.2.2.2.2, [(owh, .inl (G.2.1 3, 1, .inr (.inl ow)))]]) H := hP
  have hD : va_D A (fl [[(qh0, .inr (11, [.ref (va 0), .ref q_snapshot, .int q.1, .ref hih0, .ref q_program, .ref q_notice, .int q.2.1, .int q.2.2]))], wSt G va u_3.2.2.1, [(hih0, .inr (7, [.int u_3.2.2.2.1.1, .int u_3.2.2.2.1.2, .ref hsh]))], wHs G hsh hsa u_3.2.2.2.2, [(owh, .inl (G.2.1 3, 1, .inr (.inl ow)))]]) := hD
  refine W.eq (g2 := F0 m 7 ls [.int u_3.2.1, .int (0 : Int32), .ref owh]) rfl ?_
  have hE := b_2.1
  have hF : f_L_advance q v hi hs ho ow = (if u_3.1 = "" then ((0 : Int32), u_3.2.2.1, u_3.2.2.2.1, u_3.2.2.2.2, (vp_updL ow (0 : Int32).toNatClampNeg u_3.2.1.toInt64)) else (if (f_X9_advance q v hi hs ho).1 = "java/lang/IllegalArgumentException" then ((1 : Int32), v, hi, hs, ow) else (0, v, hi, hs, ow))) := by subst eu_3; exact hF
  have hF := hF.trans (if_pos hE)
  have hok : (if u_3.1 = "" then True else (if (f_X9_advance q v hi hs ho).1 = "java/lang/IllegalArgumentException" then True else False)) := by subst eu_3; exact hok
  have hok := Eq.mp (if_pos hE) hok
  refine lv_i2l hx hb dL_advance_7 rfl ?_
  refine va_last hx hb hK hP hD hS 203 3 rfl rfl (vp_in_nI (n := 0) (by decide) (by decide)) dL_advance_8 (fun H locs hP hD hS => ?_)
  have hP : va_P G.1 vwCl (fl [[(qh0, .inr (11, [.ref (va 0), .ref q_snapshot, .int q.1, .ref hih0, .ref q_program, .ref q_notice, .int q.2.1, .int q.2.2]))], wSt G va u_3.2.2.1, [(hih0, .inr (7, [.int u_3.2.2.2.1.1, .int u_3.2.2.2.1.2, .ref hsh]))], wHs G hsh hsa u_3.2.2.2.2, [(owh, .inl (G.2.1 3, 1, .inr (.inl (vp_updL ow (0 : Int32).toNatClampNeg u_3.2.1.toInt64))))]]) H := hP
  have hD : va_D A (fl [[(qh0, .inr (11, [.ref (va 0), .ref q_snapshot, .int q.1, .ref hih0, .ref q_program, .ref q_notice, .int q.2.1, .int q.2.2]))], wSt G va u_3.2.2.1, [(hih0, .inr (7, [.int u_3.2.2.2.1.1, .int u_3.2.2.2.1.2, .ref hsh]))], wHs G hsh hsa u_3.2.2.2.2, [(owh, .inl (G.2.1 3, 1, .inr (.inl (vp_updL ow (0 : Int32).toNatClampNeg u_3.2.1.toInt64))))]]) := hD
  refine lv_goto (tgt := 15) hx hb dL_advance_9 (by decide) ?_
  refine lv_iconst (v := (0 : Int32)) hx hb dL_advance_15 (by decide) ?_
  exact w_ret (u := ((0 : Int32), u_3.2.2.1, u_3.2.2.2.1, u_3.2.2.2.2, (vp_updL ow (0 : Int32).toNatClampNeg u_3.2.1.toInt64))) hx hb hr hlk rfl hS rfl hF.symm hP hD (Nat.le_of_ble_eq_true rfl) (Nat.le_of_ble_eq_true rfl) dL_advance_16
  have hF := hF.trans (if_neg (fun e => hE.2 (hE.1.trans e)))
  have hok := Eq.mp (if_neg (fun e => hE.2 (hE.1.trans e))) hok
  by_cases c_4 : (f_X9_advance q v hi hs ho).1 = "java/lang/IllegalArgumentException"
  · have hF := hF.trans (if_pos c_4)
    have hok := Eq.mp (if_pos c_4) hok
    have hEE : E = "java/lang/IllegalArgumentException" := hE.1.trans c_4
    subst hEE
    refine vx_catch (own := RL) (name := "java/lang/IllegalArgumentException") hown [] (⟨0, 9, 12, 13⟩ : ExceptionTableEntry) [] (hxt.trans rfl) (fun z hz => nomatch hz) (by decide) (by decide) (hts _ u_403) (va_tabs rfl rfl (hST.2.2.2.2.2.2.2.1 _ cst_IllegalArgumentException)) h3 h4 h5 ?_
    refine W.eq (g2 := F0 m 12 ls [.ref q9]) rfl ?_
    refine lv_astore_n (lv' := [(3, .ref q9), (0, .ref qh0), (1, .int ho), (2, .ref owh)]) hx hb dL_advance_12 rfl hl (by decide) rfl (fun ls hl => ?_)
    refine lv_iconst (v := (1 : Int32)) hx hb dL_advance_13 (by decide) ?_
    exact w_ret (u := ((1 : Int32), v, hi, hs, ow)) hx hb hr hlk rfl hS rfl hF.symm hP hD (Nat.le_of_ble_eq_true rfl) (Nat.le_of_ble_eq_true rfl) dL_advance_14
  · have hF := hF.trans (if_neg c_4)
    have hok := Eq.mp (if_neg c_4) hok
    exact hok.elim
theorem dL_phaseOn_0 : decode cL_phaseOn 0 = .ok (.aload_n 2, 1) := by decide +kernel
theorem dL_phaseOn_1 : decode cL_phaseOn 1 = .ok (.iconst 0, 1) := by decide +kernel
theorem dL_phaseOn_2 : decode cL_phaseOn 2 = .ok (.aload_n 0, 1) := by decide +kernel
theorem dL_phaseOn_3 : decode cL_phaseOn 3 = .ok (.iload_n 1, 1) := by decide +kernel
theorem dL_phaseOn_4 : decode cL_phaseOn 4 = .ok (.invokevirtual 95, 3) := by decide +kernel
theorem u_1011 : Cond.methodLink RL 95 yX9_phaseOn ∈ UW := uw 1011 (by decide +kernel) rfl
theorem u_1012 : Cond.instanceMethod yX9_phaseOn ∈ UW := uw 1012 (by decide +kernel) rfl
theorem u_1013 : Cond.selects RX9 yX9_phaseOn yX9_phaseOn ∈ UW := uw 1013 (by decide +kernel) rfl
theorem u_1014 : Cond.code yX9_phaseOn cX9_phaseOn 2 (some .int) ∈ UW := uw 1014 (by decide +kernel) rfl
theorem g_L_95 : GoodIn UW (wsV RL 95 RX9 yX9_phaseOn (wsU yX9_phaseOn cX9_phaseOn 2 (some .int))) := gV u_1011 u_1012 u_1013 u_65 u_1014
theorem hdv_X9_phaseOn : yX9_phaseOn.cls = RX9 ∧ yX9_phaseOn.cls ≠ "java/lang/invoke/MethodHandle" ∧ yX9_phaseOn.cls ≠ "java/lang/invoke/VarHandle" ∧ (parseMethodDescriptor yX9_phaseOn.desc).map (fun d => d.parameters.length) = some 1 := by decide +kernel
theorem dL_phaseOn_12 : decode cL_phaseOn 12 = .ok (.astore_n 3, 1) := by decide +kernel
theorem dL_phaseOn_13 : decode cL_phaseOn 13 = .ok (.iconst 1, 1) := by decide +kernel
theorem dL_phaseOn_14 : decode cL_phaseOn 14 = .ok (.ireturn, 1) := by decide +kernel
theorem dL_phaseOn_7 : decode cL_phaseOn 7 = .ok (.i2l, 1) := by decide +kernel
theorem dL_phaseOn_8 : decode cL_phaseOn 8 = .ok (.lastore, 1) := by decide +kernel
theorem dL_phaseOn_9 : decode cL_phaseOn 9 = .ok (.goto 6, 3) := by decide +kernel
theorem dL_phaseOn_15 : decode cL_phaseOn 15 = .ok (.iconst 0, 1) := by decide +kernel
theorem dL_phaseOn_16 : decode cL_phaseOn 16 = .ok (.ireturn, 1) := by decide +kernel
def f_L_phaseOn (q : McV) (v : StV) (x : Int32) (ow : Nat → Int64) : Int32 × (Nat → Int64) := (if (f_X9_phaseOn q v x).1 = "" then ((0 : Int32), (vp_updL ow (0 : Int32).toNatClampNeg (((f_X9_phaseOn q v x).2).toInt64))) else (if (f_X9_phaseOn q v x).1 = "java/lang/IllegalArgumentException" then ((1 : Int32), ow) else (0, ow)))
def ok_L_phaseOn (q : McV) (v : StV) (x : Int32) (ow : Nat → Int64) : Prop := (if (f_X9_phaseOn q v x).1 = "" then True else (if (f_X9_phaseOn q v x).1 = "java/lang/IllegalArgumentException" then True else False))
set_option maxHeartbeats 8000000 in
set_option maxRecDepth 100000 in
set_option linter.constructorNameAsVariable false in
theorem c_L_phaseOn (l : Launch) (hlf : l.stackTraces = false) (G : GG) (qh0 : Nat) (q_snapshot : Nat) (q_history : Nat) (q_program : Nat) (q_notice : Nat) (va : Nat → Nat) (owh : Nat) (sz : Nat) (q : McV) (v : StV) (x : Int32) (ow : Nat → Int64) (hok : ok_L_phaseOn q v x ow) : wMetH l yL_phaseOn cL_phaseOn 4 (some .int) [(0, 9, 12, 13)] 10 1 6 G (fl [[(qh0, .inr (11, [.ref (va 0), .ref q_snapshot, .int q.1, .ref q_history, .ref q_program, .ref q_notice, .int q.2.1, .int q.2.2]))], wSt G va v, [(owh, .inl (G.2.1 3, 1, .inr (.inl ow)))]]) [.ref qh0, .int x, .ref owh] sz (fun u : Int32 × (Nat → Int64) => some (.int u.1)) (fun u : Int32 × (Nat → Int64) => u = f_L_phaseOn q v x ow) (fun u : Int32 × (Nat → Int64) => fl [[(qh0, .inr (11, [.ref (va 0), .ref q_snapshot, .int q.1, .ref q_history, .ref q_program, .ref q_notice, .int q.2.1, .int q.2.2]))], wSt G va v, [(owh, .inl (G.2.1 3, 1, .inr (.inl u.2)))]]) := by
  refine w_startH (by decide +kernel) (Nat.le_of_ble_eq_true rfl) ?_
  intro p e s m below meth c A hx hb hr hml hts hown hlk hin hxt hP hD hA hK hST ls hl
  have hS : va_S A s.heap s.heap [] := va_S.rf
  have hown : s.vm.findClass RL = some m.cls := hown
  have hl : lv_has ls 4 [(0, .ref qh0), (1, .int x), (2, .ref owh)] := hl
  have hF : f_L_phaseOn q v x ow = (if (f_X9_phaseOn q v x).1 = "" then ((0 : Int32), (vp_updL ow (0 : Int32).toNatClampNeg (((f_X9_phaseOn q v x).2).toInt64))) else (if (f_X9_phaseOn q v x).1 = "java/lang/IllegalArgumentException" then ((1 : Int32), ow) else (0, ow))) := rfl
  have hok : (if (f_X9_phaseOn q v x).1 = "" then True else (if (f_X9_phaseOn q v x).1 = "java/lang/IllegalArgumentException" then True else False)) := hok
  refine lv_aload_n hx hb dL_phaseOn_0 rfl (lv_at hl 2 rfl) ?_
  refine lv_iconst (v := (0 : Int32)) hx hb dL_phaseOn_1 (by decide) ?_
  refine lv_aload_n hx hb dL_phaseOn_2 rfl (lv_at hl 0 rfl) ?_
  refine lv_iload_n hx hb dL_phaseOn_3 rfl (lv_at hl 1 rfl) ?_
  refine xr_V (own := RL) (v := (some (.int ((f_X9_phaseOn q v x).2)))) (st1 := [.int ((f_X9_phaseOn q v x).2), .int (0 : Int32), .ref owh]) (As := [.int x]) (rest := [.int (0 : Int32), .ref owh]) (c_X9_phaseOnS l hlf G qh0 q_snapshot q_history q_program q_notice va q v x) ⟨hx, hb, hml, hown, hts⟩ g_L_95 hdv_X9_phaseOn hK hST hS hP [0, 1, 2, 3, 4, 5, 6, 7, 8, 9, 10, 11, 12, 13, 14, 15, 16, 17, 18, 19, 20] rfl (k0 := 0) rfl rfl rfl ⟨Nat.le_of_ble_eq_true rfl, Nat.le_of_ble_eq_true rfl⟩ ⟨Nat.le_of_ble_eq_true rfl, Nat.le_of_ble_eq_true rfl⟩ rfl hl.1 rfl (Nat.le_of_ble_eq_true rfl) dL_phaseOn_4 rfl (fun E ce q9 H hE h1 h2 h3 h4 h5 => ?_) (fun b_1 => ?_)
  · have hF := hF.trans (if_neg (fun e => hE.2 (hE.1.trans e)))
    have hok := Eq.mp (if_neg (fun e => hE.2 (hE.1.trans e))) hok
    have hP := hP.kept (fun k q hk => h2 q.1 ((hP k q hk).lt))
    have hS : va_S A s.heap H _ := ⟨Nat.le_trans hS.1 h1, fun q hq hA => (h2 q (Nat.lt_of_lt_of_le hq hS.1)).trans (hS.2.1 q hq hA), hS.2.2⟩
    by_cases c_2 : (f_X9_phaseOn q v x).1 = "java/lang/IllegalArgumentException"
    · have hF := hF.trans (if_pos c_2)
      have hok := Eq.mp (if_pos c_2) hok
      have hEE : E = "java/lang/IllegalArgumentException" := hE.1.trans c_2
      subst hEE
      refine vx_catch (own := RL) (name := "java/lang/IllegalArgumentException") hown [] (⟨0, 9, 12, 13⟩ : ExceptionTableEntry) [] (hxt.trans rfl) (fun z hz => nomatch hz) (by decide) (by decide) (hts _ u_403) (va_tabs rfl rfl (hST.2.2.2.2.2.2.2.1 _ cst_IllegalArgumentException)) h3 h4 h5 ?_
      refine W.eq (g2 := F0 m 12 ls [.ref q9]) rfl ?_
      refine lv_astore_n (lv' := [(3, .ref q9), (0, .ref qh0), (1, .int x), (2, .ref owh)]) hx hb dL_phaseOn_12 rfl hl (by decide) rfl (fun ls hl => ?_)
      refine lv_iconst (v := (1 : Int32)) hx hb dL_phaseOn_13 (by decide) ?_
      exact w_ret (u := ((1 : Int32), ow)) hx hb hr hlk rfl hS rfl hF.symm hP hD (Nat.le_of_ble_eq_true rfl) (Nat.le_of_ble_eq_true rfl) dL_phaseOn_14
    · have hF := hF.trans (if_neg c_2)
      have hok := Eq.mp (if_neg c_2) hok
      exact hok.elim
  · have hE := b_1.1
    have b_1 := b_1.2
    have hF := hF.trans (if_pos hE)
    have hok := Eq.mp (if_pos hE) hok
    refine lv_i2l hx hb dL_phaseOn_7 rfl ?_
    refine va_last hx hb hK hP hD hS 21 3 rfl rfl (vp_in_nI (n := 0) (by decide) (by decide)) dL_phaseOn_8 (fun H locs hP hD hS => ?_)
    have hP : va_P G.1 vwCl (fl [[(qh0, .inr (11, [.ref (va 0), .ref q_snapshot, .int q.1, .ref q_history, .ref q_program, .ref q_notice, .int q.2.1, .int q.2.2]))], wSt G va v, [(owh, .inl (G.2.1 3, 1, .inr (.inl (vp_updL ow (0 : Int32).toNatClampNeg (((f_X9_phaseOn q v x).2).toInt64)))))]]) H := hP
    have hD : va_D A (fl [[(qh0, .inr (11, [.ref (va 0), .ref q_snapshot, .int q.1, .ref q_history, .ref q_program, .ref q_notice, .int q.2.1, .int q.2.2]))], wSt G va v, [(owh, .inl (G.2.1 3, 1, .inr (.inl (vp_updL ow (0 : Int32).toNatClampNeg (((f_X9_phaseOn q v x).2).toInt64)))))]]) := hD
    refine lv_goto (tgt := 15) hx hb dL_phaseOn_9 (by decide) ?_
    refine lv_iconst (v := (0 : Int32)) hx hb dL_phaseOn_15 (by decide) ?_
    exact w_ret (u := ((0 : Int32), (vp_updL ow (0 : Int32).toNatClampNeg (((f_X9_phaseOn q v x).2).toInt64)))) hx hb hr hlk rfl hS rfl hF.symm hP hD (Nat.le_of_ble_eq_true rfl) (Nat.le_of_ble_eq_true rfl) dL_phaseOn_16
