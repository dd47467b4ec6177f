theorem dL_addDoor_0 : decode cL_addDoor 0 = .ok (.aload 5, 2) := by decide +kernel
theorem dL_addDoor_2 : decode cL_addDoor 2 = .ok (.iconst 0, 1) := by decide +kernel
theorem dL_addDoor_3 : decode cL_addDoor 3 = .ok (.aload_n 0, 1) := by decide +kernel
theorem dL_addDoor_4 : decode cL_addDoor 4 = .ok (.iload_n 1, 1) := by decide +kernel
theorem dL_addDoor_5 : decode cL_addDoor 5 = .ok (.iload_n 2, 1) := by decide +kernel
theorem dL_addDoor_6 : decode cL_addDoor 6 = .ok (.iload_n 3, 1) := by decide +kernel
theorem dL_addDoor_7 : decode cL_addDoor 7 = .ok (.iload 4, 2) := by decide +kernel
theorem dL_addDoor_9 : decode cL_addDoor 9 = .ok (.invokevirtual 7, 3) := by decide +kernel
theorem u_405 : Cond.methodLink RL 7 yX9_addDoor ∈ UW := uw 405 (by decide +kernel) rfl
theorem u_406 : Cond.instanceMethod yX9_addDoor ∈ UW := uw 406 (by decide +kernel) rfl
theorem u_407 : Cond.selects RX9 yX9_addDoor yX9_addDoor ∈ UW := uw 407 (by decide +kernel) rfl
theorem u_408 : Cond.code yX9_addDoor cX9_addDoor 5 (some .int) ∈ UW := uw 408 (by decide +kernel) rfl
theorem g_L_7 : GoodIn UW (wsV RL 7 RX9 yX9_addDoor (wsU yX9_addDoor cX9_addDoor 5 (some .int))) := gV u_405 u_406 u_407 u_65 u_408
theorem hdv_X9_addDoor : yX9_addDoor.cls = RX9 ∧ yX9_addDoor.cls ≠ "java/lang/invoke/MethodHandle" ∧ yX9_addDoor.cls ≠ "java/lang/invoke/VarHandle" ∧ (parseMethodDescriptor yX9_addDoor.desc).map (fun d => d.parameters.length) = some 4 := by decide +kernel
theorem dL_addDoor_12 : decode cL_addDoor 12 = .ok (.i2l, 1) := by decide +kernel
theorem dL_addDoor_13 : decode cL_addDoor 13 = .ok (.lastore, 1) := by decide +kernel
theorem dL_addDoor_14 : decode cL_addDoor 14 = .ok (.goto 11, 3) := by decide +kernel
theorem dL_addDoor_25 : decode cL_addDoor 25 = .ok (.iconst 0, 1) := by decide +kernel
theorem dL_addDoor_26 : decode cL_addDoor 26 = .ok (.ireturn, 1) := by decide +kernel
theorem u_403 : Cond.classLink RL 13 "java/lang/IllegalArgumentException" ∈ UW := uw 403 (by decide +kernel) rfl
theorem cst_IllegalArgumentException : Cond.castable "java/lang/IllegalArgumentException" "java/lang/IllegalArgumentException" ∈ CW := cwm 503 (by decide +kernel) rfl
theorem dL_addDoor_17 : decode cL_addDoor 17 = .ok (.astore 6, 2) := by decide +kernel
theorem dL_addDoor_19 : decode cL_addDoor 19 = .ok (.iconst 1, 1) := by decide +kernel
theorem dL_addDoor_20 : decode cL_addDoor 20 = .ok (.ireturn, 1) := by decide +kernel
theorem u_404 : Cond.classLink RL 15 "java/lang/IllegalStateException" ∈ UW := uw 404 (by decide +kernel) rfl
theorem cst_IllegalStateException : Cond.castable "java/lang/IllegalStateException" "java/lang/IllegalStateException" ∈ CW := cwm 538 (by decide +kernel) rfl
theorem dL_addDoor_21 : decode cL_addDoor 21 = .ok (.astore 6, 2) := by decide +kernel
theorem dL_addDoor_23 : decode cL_addDoor 23 = .ok (.iconst 2, 1) := by decide +kernel
theorem dL_addDoor_24 : decode cL_addDoor 24 = .ok (.ireturn, 1) := by decide +kernel
def f_L_addDoor (q : McV) (v : StV) (hi : HiV) (hs : Nat → StV) (ph : Int32) (fh : Int32) (lh : Int32) (ke : Int32) (ow : Nat → Int64) : Int32 × StV × HiV × (Nat → StV) × (Nat → Int64) := (let u_3 : String × Int32 × StV × HiV × (Nat → StV) := (f_X9_addDoor q v hi hs ph fh lh ke); (if u_3.1 = "" then ((0 : Int32), u_3.2.2.1, u_3.2.2.2.1, u_3.2.2.2.2, (vp_updL ow (0 : Int32).toNatClampNeg u_3.2.1.toInt64)) else (if (f_X9_addDoor q v hi hs ph fh lh ke).1 = "java/lang/IllegalArgumentException" then ((1 : Int32), v, hi, hs, ow) else (if (f_X9_addDoor q v hi hs ph fh lh ke).1 = "java/lang/IllegalStateException" then ((2 : Int32), v, hi, hs, ow) else (0, v, hi, hs, ow)))))
def ok_L_addDoor (q : McV) (v : StV) (hi : HiV) (hs : Nat → StV) (ph : Int32) (fh : Int32) (lh : Int32) (ke : Int32) (ow : Nat → Int64) : Prop := (nx9 hi.2 ∧ (let u_3 : String × Int32 × StV × HiV × (Nat → StV) := (f_X9_addDoor q v hi hs ph fh lh ke); (if u_3.1 = "" then True else (if (f_X9_addDoor q v hi hs ph fh lh ke).1 = "java/lang/IllegalArgumentException" then True else (if (f_X9_addDoor q v hi hs ph fh lh ke).1 = "java/lang/IllegalStateException" then True else False)))))
set_option maxHeartbeats 8000000 in
set_option maxRecDepth 100000 in
set_option linter.constructorNameAsVariable false in
theorem c_L_addDoor (l : Launch) (hlf : l.stackTraces = false) (G : GG) (qh0 : Nat) (q_snapshot : Nat) (q_program : Nat) (q_notice : Nat) (va : Nat → Nat) (hih0 : Nat) (hsh : Nat) (hsa : Nat → Nat → Nat) (owh : Nat) (sz : Nat) (q : McV) (v : StV) (hi : HiV) (hs : Nat → StV) (ph : Int32) (fh : Int32) (lh : Int32) (ke : Int32) (ow : Nat → Int64) (hok : ok_L_addDoor q v hi hs ph fh lh ke ow) : wMetH l yL_addDoor cL_addDoor 7 (some .int) [(0, 14, 17, 13), (0, 14, 21, 15)] 10 1 6 G (fl [[(qh0, .inr (11, [.ref (va 0), .ref q_snapshot, .int q.1, .ref hih0, .ref q_program, .ref q_notice, .int q.2.1, .int q.2.2]))], wSt G va v, [(hih0, .inr (7, [.int hi.1, .int hi.2, .ref hsh]))], wHs G hsh hsa hs, [(owh, .inl (G.2.1 3, 1, .inr (.inl ow)))]]) [.ref qh0, .int ph, .int fh, .int lh, .int ke, .ref owh] sz (fun u : Int32 × StV × HiV × (Nat → StV) × (Nat → Int64) => some (.int u.1)) (fun u : Int32 × StV × HiV × (Nat → StV) × (Nat → Int64) => u = f_L_addDoor q v hi hs ph fh lh ke ow) (fun u : Int32 × StV × HiV × (Nat → StV) × (Nat → Int64) => fl [[(qh0, .inr (11, [.ref (va 0), .ref q_snapshot, .int q.1, .ref hih0, .ref q_program, .ref q_notice, .int q.2.1, .int q.2.2]))], wSt G va u.2.1, [(hih0, .inr (7, [.int u.2.2.1.1, .int u.2.2.1.2, .ref hsh]))], wHs G hsh hsa u.2.2.2.1, [(owh, .inl (G.2.1 3, 1, .inr (.inl u.2.2.2.2)))]]) := by
  refine w_startH (by decide +kernel) (Nat.le_of_ble_eq_true rfl) ?_
  intro p e s m below meth c A hx hb hr hml hts hown hlk hin hxt hP hD hA hK hST ls hl
  have hS : va_S A s.heap s.heap [] := va_S.rf
  have hown : s.vm.findClass RL = some m.cls := hown
  have hl : lv_has ls 7 [(0, .ref qh0), (1, .int ph), (2, .int fh), (3, .int lh), (4, .int ke), (5, .ref owh)] := hl
  have hF : f_L_addDoor q v hi hs ph fh lh ke ow = (let u_3 : String × Int32 × StV × HiV × (Nat → StV) := (f_X9_addDoor q v hi hs ph fh lh ke); (if u_3.1 = "" then ((0 : Int32), u_3.2.2.1, u_3.2.2.2.1, u_3.2.2.2.2, (vp_updL ow (0 : Int32).toNatClampNeg u_3.2.1.toInt64)) else (if (f_X9_addDoor q v hi hs ph fh lh ke).1 = "java/lang/IllegalArgumentException" then ((1 : Int32), v, hi, hs, ow) else (if (f_X9_addDoor q v hi hs ph fh lh ke).1 = "java/lang/IllegalStateException" then ((2 : Int32), v, hi, hs, ow) else (0, v, hi, hs, ow))))) := rfl
  have hok : (nx9 hi.2 ∧ (let u_3 : String × Int32 × StV × HiV × (Nat → StV) := (f_X9_addDoor q v hi hs ph fh lh ke); (if u_3.1 = "" then True else (if (f_X9_addDoor q v hi hs ph fh lh ke).1 = "java/lang/IllegalArgumentException" then True else (if (f_X9_addDoor q v hi hs ph fh lh ke).1 = "java/lang/IllegalStateException" then True else False))))) := hok
  refine lv_aload hx hb dL_addDoor_0 (lv_at hl 5 rfl) ?_
  refine lv_iconst (v := (0 : Int32)) hx hb dL_addDoor_2 (by decide) ?_
  refine lv_aload_n hx hb dL_addDoor_3 rfl (lv_at hl 0 rfl) ?_
  refine lv_iload_n hx hb dL_addDoor_4 rfl (lv_at hl 1 rfl) ?_
  refine lv_iload_n hx hb dL_addDoor_5 rfl (lv_at hl 2 rfl) ?_
  refine lv_iload_n hx hb dL_addDoor_6 rfl (lv_at hl 3 rfl) ?_
  refine lv_iload hx hb dL_addDoor_7 (lv_at hl 4 rfl) ?_
  have k_1 := hok.1
  have hok := hok.2
  refine xw_V (own := RL) (cs := [[(qh0, .inr (11, [.ref (va 0), .ref q_snapshot, .int q.1, .ref hih0, .ref q_program, .ref q_notice, .int q.2.1, .int q.2.2]))], wSt G va v, [(hih0, .inr (7, [.int hi.1, .int hi.2, .ref hsh]))], wHs G hsh hsa hs]) (rs := [[(owh, .inl (G.2.1 3, 1, .inr (.inl ow)))]]) (As := [.int ph, .int fh, .int lh, .int ke]) (rest := [.int (0 : Int32), .ref owh]) (c_X9_addDoorS l hlf G qh0 q_snapshot q_program q_notice va hih0 hsh hsa s.heap.size q v hi hs ph fh lh ke k_1) ⟨hx, hb, hml, hown, hts⟩ g_L_7 hdv_X9_addDoor hK hST hS hP hD hA [0, 1, 2, 3] [4] rfl rfl rfl (k0 := 0) rfl rfl rfl ⟨Nat.le_of_ble_eq_true rfl, Nat.le_of_ble_eq_true rfl⟩ ⟨Nat.le_of_ble_eq_true rfl, Nat.le_of_ble_eq_true rfl⟩ rfl hl.1 rfl (Nat.le_of_ble_eq_true rfl) dL_addDoor_9 (fun E ce q9 H locs hE hP hS h3 h4 h5 => ?_) (fun u_3 H locs huu hP hD hS => ?_)
  rotate_left
  obtain ⟨huu, b_2⟩ := huu
  rw [← huu] at b_2
  have eu_3 := huu
  have hP : va_P G.1 vwCl (fl [[(qh0, .inr (11, [.ref (va 0), .ref q_snapshot, .int q.1, .ref hih0, .ref q_program, .ref q_notice, .int q.2.1, .int q.2.2]))], wSt G va u_3.2.2.1, [(hih0, .inr (7, [.int u_3.2.2.2.1.1, .int u_3.2.2.2.1.2, .ref hsh]))], wHs G hsh hsa u_3.2.2.2.2, [(owh, .inl (G.2.1 3, 1, .inr (.inl ow)))]]) H := hP
  have hD : va_D A (fl [[(qh0, .inr (11, [.ref (va 0), .ref q_snapshot, .int q.1, .ref hih0, .ref q_program, .ref q_notice, .int q.2.1, .int q.2.2]))], wSt G va u_3.2.2.1, [(hih0, .inr (7, [.int u_3.2.2.2.1.1, .int u_3.2.2.2.1.2, .ref hsh]))], wHs G hsh hsa u_3.2.2.2.2, [(owh, .inl (G.2.1 3, 1, .inr (.inl ow)))]]) := hD
  refine W.eq (g2 := F0 m 12 ls [.int u_3.2.1, .int (0 : Int32), .ref owh]) rfl ?_
  have hE := b_2.1
  have hF : f_L_addDoor q v hi hs ph fh lh ke ow = (if u_3.1 = "" then ((0 : Int32), u_3.2.2.1, u_3.2.2.2.1, u_3.2.2.2.2, (vp_updL ow (0 : Int32).toNatClampNeg u_3.2.1.toInt64)) else (if (f_X9_addDoor q v hi hs ph fh lh ke).1 = "java/lang/IllegalArgumentException" then ((1 : Int32), v, hi, hs, ow) else (if (f_X9_addDoor q v hi hs ph fh lh ke).1 = "java/lang/IllegalStateException" then ((2 : Int32), v, hi, hs, ow) else (0, v, hi, hs, ow)))) := by subst eu_3; exact hF
  have hF := hF.trans (if_pos hE)
  have hok : (if u_3.1 = "" then True else (if (f_X9_addDoor q v hi hs ph fh lh ke).1 = "java/lang/IllegalArgumentException" then True else (if (f_X9_addDoor q v hi hs ph fh lh ke).1 = "java/lang/IllegalStateException" then True else False))) := by subst eu_3; exact hok
  have hok := Eq.mp (if_pos hE) hok
  refine lv_i2l hx hb dL_addDoor_12 rfl ?_
  refine va_last hx hb hK hP hD hS 203 3 rfl rfl (vp_in_nI (n := 0) (by decide) (by decide)) dL_addDoor_13 (fun H locs hP hD hS => ?_)
  have hP : va_P G.1 vwCl (fl [[(qh0, .inr (11, [.ref (va 0), .ref q_snapshot, .int q.1, .ref hih0, .ref q_program, .ref q_notice, .int q.2.1, .int q.2.2]))], wSt G va u_3.2.2.1, [(hih0, .inr (7, [.int u_3.2.2.2.1.1, .int u_3.2.2.2.1.2, .ref hsh]))], wHs G hsh hsa u_3.2.2.2.2, [(owh, .inl (G.2.1 3, 1, .inr (.inl (vp_updL ow (0 : Int32).toNatClampNeg u_3.2.1.toInt64))))]]) H := hP
  have hD : va_D A (fl [[(qh0, .inr (11, [.ref (va 0), .ref q_snapshot, .int q.1, .ref hih0, .ref q_program, .ref q_notice, .int q.2.1, .int q.2.2]))], wSt G va u_3.2.2.1, [(hih0, .inr (7, [.int u_3.2.2.2.1.1, .int u_3.2.2.2.1.2, .ref hsh]))], wHs G hsh hsa u_3.2.2.2.2, [(owh, .inl (G.2.1 3, 1, .inr (.inl (vp_updL ow (0 : Int32).toNatClampNeg u_3.2.1.toInt64))))]]) := hD
  refine lv_goto (tgt := 25) hx hb dL_addDoor_14 (by decide) ?_
  refine lv_iconst (v := (0 : Int32)) hx hb dL_addDoor_25 (by decide) ?_
  exact w_ret (u := ((0 : Int32), u_3.2.2.1, u_3.2.2.2.1, u_3.2.2.2.2, (vp_updL ow (0 : Int32).toNatClampNeg u_3.2.1.toInt64))) hx hb hr hlk rfl hS rfl hF.symm hP hD (Nat.le_of_ble_eq_true rfl) (Nat.le_of_ble_eq_true rfl) dL_addDoor_26
  have hF := hF.trans (if_neg (fun e => hE.2 (hE.1.trans e)))
  have hok := Eq.mp (if_neg (fun e => hE.2 (hE.1.trans e))) hok
  by_cases c_4 : (f_X9_addDoor q v hi hs ph fh lh ke).1 = "java/lang/IllegalArgumentException"
  · have hF := hF.trans (if_pos c_4)
    have hok := Eq.mp (if_pos c_4) hok
    have hEE : E = "java/lang/IllegalArgumentException" := hE.1.trans c_4
    subst hEE
    refine vx_catch (own := RL) (name := "java/lang/IllegalArgumentException") hown [] (⟨0, 14, 17, 13⟩ : ExceptionTableEntry) [(⟨0, 14, 21, 15⟩ : ExceptionTableEntry)] (hxt.trans rfl) (fun z hz => nomatch hz) (by decide) (by decide) (hts _ u_403) (va_tabs rfl rfl (hST.2.2.2.2.2.2.2.1 _ cst_IllegalArgumentException)) h3 h4 h5 ?_
    refine W.eq (g2 := F0 m 17 ls [.ref q9]) rfl ?_
    refine lv_astore (lv' := [(6, .ref q9), (0, .ref qh0), (1, .int ph), (2, .int fh), (3, .int lh), (4, .int ke), (5, .ref owh)]) hx hb dL_addDoor_17 hl (by decide) rfl (fun ls hl => ?_)
    refine lv_iconst (v := (1 : Int32)) hx hb dL_addDoor_19 (by decide) ?_
    exact w_ret (u := ((1 : Int32), v, hi, hs, ow)) hx hb hr hlk rfl hS rfl hF.symm hP hD (Nat.le_of_ble_eq_true rfl) (Nat.le_of_ble_eq_true rfl) dL_addDoor_20
  · have hF := hF.trans (if_neg c_4)
    have hok := Eq.mp (if_neg c_4) hok
    by_cases c_5 : (f_X9_addDoor q v hi hs ph fh lh ke).1 = "java/lang/IllegalStateException"
    · have hF := hF.trans (if_pos c_5)
      have hok := Eq.mp (if_pos c_5) hok
      have hEE : E = "java/lang/IllegalStateException" := hE.1.trans c_5
      subst hEE
      refine vx_catch (own := RL) (name := "java/lang/IllegalStateException") hown [(⟨0, 14, 17, 13⟩ : ExceptionTableEntry)] (⟨0, 14, 21, 15⟩ : ExceptionTableEntry) [] (hxt.trans rfl) (List.forall_mem_cons.mpr ⟨Or.inr ⟨by decide, "java/lang/IllegalArgumentException", hts _ u_403, hST.2.2.2.2.2.2.2.2.1 ("java/lang/IllegalStateException", "java/lang/IllegalArgumentException") (by decide +kernel)⟩, fun _ h => nomatch h⟩) (by decide) (by decide) (hts _ u_404) (va_tabs rfl rfl (hST.2.2.2.2.2.2.2.1 _ cst_IllegalStateException)) h3 h4 h5 ?_
      refine W.eq (g2 := F0 m 21 ls [.ref q9]) rfl ?_
      refine lv_astore (lv' := [(6, .ref q9), (0, .ref qh0), (1, .int ph), (2, .int fh), (3, .int lh), (4, .int ke), (5, .ref owh)]) hx hb dL_addDoor_21 hl (by decide) rfl (fun ls hl => ?_)
      refine lv_iconst (v := (2 : Int32)) hx hb dL_addDoor_23 (by decide) ?_
      exact w_ret (u := ((2 : Int32), v, hi, hs, ow)) hx hb hr hlk rfl hS rfl hF.symm hP hD (Nat.le_of_ble_eq_true rfl) (Nat.le_of_ble_eq_true rfl) dL_addDoor_24
    · have hF := hF.trans (if_neg c_5)
      have hok := Eq.mp (if_neg c_5) hok
      exact hok.elim
theorem dL_setRule_0 : decode cL_setRule 0 = .ok (.aload 6, 2) := by decide +kernel
theorem dL_setRule_2 : decode cL_setRule 2 = .ok (.iconst 0, 1) := by decide +kernel
theorem dL_setRule_3 : decode cL_setRule 3 = .ok (.aload_n 0, 1) := by decide +kernel
theorem dL_setRule_4 : decode cL_setRule 4 = .ok (.iload_n 1, 1) := by decide +kernel
theorem dL_setRule_5 : decode cL_setRule 5 = .ok (.iload_n 2, 1) := by decide +kernel
theorem dL_setRule_6 : decode cL_setRule 6 = .ok (.iload_n 3, 1) := by decide +kernel
theorem dL_setRule_7 : decode cL_setRule 7 = .ok (.iload 4, 2) := by decide +kernel
theorem dL_setRule_9 : decode cL_setRule 9 = .ok (.iload 5, 2) := by decide +kernel
theorem dL_setRule_11 : decode cL_setRule 11 = .ok (.invokevirtual 17, 3) := by decide +kernel
theorem u_629 : Cond.methodLink RL 17 yX9_setRule ∈ UW := uw 629 (by decide +kernel) rfl
theorem u_630 : Cond.instanceMethod yX9_setRule ∈ UW := uw 630 (by decide +kernel) rfl
theorem u_631 : Cond.selects RX9 yX9_setRule yX9_setRule ∈ UW := uw 631 (by decide +kernel) rfl
theorem u_632 : Cond.code yX9_setRule cX9_setRule 7 (some .int) ∈ UW := uw 632 (by decide +kernel) rfl
theorem g_L_17 : GoodIn UW (wsV RL 17 RX9 yX9_setRule (wsU yX9_setRule cX9_setRule 7 (some .int))) := gV u_629 u_630 u_631 u_65 u_632
theorem hdv_X9_setRule : yX9_setRule.cls = RX9 ∧ yX9_setRule.cls ≠ "java/lang/invoke/MethodHandle" ∧ yX9_setRule.cls ≠ "java/lang/invoke/VarHandle" ∧ (parseMethodDescriptor yX9_setRule.desc).map (fun d => d.parameters.length) = some 5 := by decide +kernel
theorem dL_setRule_14 : decode cL_setRule 14 = .ok (.i2l, 1) := by decide +kernel
theorem dL_setRule_15 : decode cL_setRule 15 = .ok (.lastore, 1) := by decide +kernel
theorem dL_setRule_16 : decode cL_setRule 16 = .ok (.goto 11, 3) := by decide +kernel
theorem dL_setRule_27 : decode cL_setRule 27 = .ok (.iconst 0, 1) := by decide +kernel
theorem dL_setRule_28 : decode cL_setRule 28 = .ok (.ireturn, 1) := by decide +kernel
theorem u_608 : Cond.classLink RL 21 "java/lang/IndexOutOfBoundsException" ∈ UW := uw 608 (by decide +kernel) rfl
theorem cst_IndexOutOfBoundsException : Cond.castable "java/lang/IndexOutOfBoundsException" "java/lang/IndexOutOfBoundsException" ∈ CW := cwm 430 (by decide +kernel) rfl
theorem dL_setRule_19 : decode cL_setRule 19 = .ok (.astore 7, 2) := by decide +kernel
theorem dL_setRule_21 : decode cL_setRule 21 = .ok (.iconst 1, 1) := by decide +kernel
theorem dL_setRule_22 : decode cL_setRule 22 = .ok (.ireturn, 1) := by decide +kernel
theorem dL_setRule_23 : decode cL_setRule 23 = .ok (.astore 7, 2) := by decide +kernel
theorem dL_setRule_25 : decode cL_setRule 25 = .ok (.iconst 2, 1) := by decide +kernel
theorem dL_setRule_26 : decode cL_setRule 26 = .ok (.ireturn, 1) := by decide +kernel
def f_L_setRule (q : McV) (v : StV) (hi : HiV) (hs : Nat → StV) (dr : Int32) (ph : Int32) (fh : Int32) (lh : Int32) (ke : Int32) (ow : Nat → Int64) : Int32 × StV × HiV × (Nat → StV) × (Nat → Int64) := (let u_3 : String × Int32 × StV × HiV × (Nat → StV) := (f_X9_setRule q v hi hs dr ph fh lh ke); (if u_3.1 = "" then ((0 : Int32), u_3.2.2.1, u_3.2.2.2.1, u_3.2.2.2.2, (vp_updL ow (0 : Int32).toNatClampNeg u_3.2.1.toInt64)) else (if (f_X9_setRule q v hi hs dr ph fh lh ke).1 = "java/lang/IndexOutOfBoundsException" then ((1 : Int32), v, hi, hs, ow) else (if (f_X9_setRule q v hi hs dr ph fh lh ke).1 = "java/lang/IllegalArgumentException" then ((2 : Int32), v, hi, hs, ow) else (0, v, hi, hs, ow)))))
def ok_L_setRule (q : McV) (v : StV) (hi : HiV) (hs : Nat → StV) (dr : Int32) (ph : Int32) (fh : Int32) (lh : Int32) (ke : Int32) (ow : Nat → Int64) : Prop := (nx9 hi.2 ∧ (let u_3 : String × Int32 × StV × HiV × (Nat → StV) := (f_X9_setRule q v hi hs dr ph fh lh ke); (if u_3.1 = "" then True else (if (f_X9_setRule q v hi hs dr ph fh lh ke).1 = "java/lang/IndexOutOfBoundsException" then True else (if (f_X9_setRule q v hi hs dr ph fh lh ke).1 = "java/lang/IllegalArgumentException" then True else False)))))
set_option maxHeartbeats 8000000 in
set_option maxRecDepth 100000 in
set_option linter.constructorNameAsVariable false in
theorem c_L_setRule (l : Launch) (hlf : l.stackTraces = false) (G : GG) (qh0 : Nat) (q_snapshot : Nat) (q_program : Nat) (q_notice : Nat) (va : Nat → Nat) (hih0 : Nat) (hsh : Nat) (hsa : Nat → Nat → Nat) (owh : Nat) (sz : Nat) (q : McV) (v : StV) (hi : HiV) (hs : Nat → StV) (dr : Int32) (ph : Int32) (fh : Int32) (lh : Int32) (ke : Int32) (ow : Nat → Int64) (hok : ok_L_setRule q v hi hs dr ph fh lh ke ow) : wMetH l yL_setRule cL_setRule 8 (some .int) [(0, 16, 19, 21), (0, 16, 23, 13)] 10 2 12 G (fl [[(qh0, .inr (11, [.ref (va 0), .ref q_snapshot, .int q.1, .ref hih0, .ref q_program, .ref q_notice, .int q.2.1, .int q.2.2]))], wSt G va v, [(hih0, .inr (7, [.int hi.1, .int hi.2, .ref hsh]))], wHs G hsh hsa hs, [(owh, .inl (G.2.1 3, 1, .inr (.inl ow)))]]) [.ref qh0, .int dr, .int ph, .int fh, .int lh, .int ke, .ref owh] sz (fun u : Int32 × StV × HiV × (Nat → StV) × (Nat → Int64) => some (.int u.1)) (fun u : Int32 × StV × HiV × (Nat → StV) × (Nat → Int64) => u = f_L_setRule q v hi hs dr ph fh lh ke ow) (fun u : Int32 × StV × HiV × (Nat → StV) × (Nat → Int64) => fl [[(qh0, .inr (11, [.ref (va 0), .ref q_snapshot, .int q.1, .ref hih0, .ref q_program, .ref q_notice, .int q.2.1, .int q.2.2]))], wSt G va u.2.1, [(hih0, .inr (7, [.int u.2.2.1.1, .int u.2.2.1.2, .ref hsh]))], wHs G hsh hsa u.2.2.2.1, [(owh, .inl (G.2.1 3, 1, .inr (.inl u.2.2.2.2)))]]) := by
  refine w_startH (by decide +kernel) (Nat.le_of_ble_eq_true rfl) ?_
  intro p e s m below meth c A hx hb hr hml hts hown hlk hin hxt hP hD hA hK hST ls hl
  have hS : va_S A s.heap s.heap [] := va_S.rf
  have hown : s.vm.findClass RL = some m.cls := hown
  have hl : lv_has ls 8 [(0, .ref qh0), (1, .int dr), (2, .int ph), (3, .int fh), (4, .int lh), (5, .int ke), (6, .ref owh)] := hl
  have hF : f_L_setRule q v hi hs dr ph fh lh ke ow = (let u_3 : String × Int32 × StV × HiV × (Nat → StV) := (f_X9_setRule q v hi hs dr ph fh lh ke); (if u_3.1 = "" then ((0 : Int32), u_3.2.2.1, u_3.2.2.2.1, u_3.2.2.2.2, (vp_updL ow (0 : Int32).toNatClampNeg u_3.2.1.toInt64)) else (if (f_X9_setRule q v hi hs dr ph fh lh ke).1 = "java/lang/IndexOutOfBoundsException" then ((1 : Int32), v, hi, hs, ow) else (if (f_X9_setRule q v hi hs dr ph fh lh ke).1 = "java/lang/IllegalArgumentException" then ((2 : Int32), v, hi, hs, ow) else (0, v, hi, hs, ow))))) := rfl
  have hok : (nx9 hi.2 ∧ (let u_3 : String × Int32 × StV × HiV × (Nat → StV) := (f_X9_setRule q v hi hs dr ph fh lh ke); (if u_3.1 = "" then True else (if (f_X9_setRule q v hi hs dr ph fh lh ke).1 = "java/lang/IndexOutOfBoundsException" then True else (if (f_X9_setRule q v hi hs dr ph fh lh ke).1 = "java/lang/IllegalArgumentException" then True else False))))) := hok
  refine lv_aload hx hb dL_setRule_0 (lv_at hl 6 rfl) ?_
  refine lv_iconst (v := (0 : Int32)) hx hb dL_setRule_2 (by decide) ?_
  refine lv_aload_n hx hb dL_setRule_3 rfl (lv_at hl 0 rfl) ?_
  refine lv_iload_n hx hb dL_setRule_4 rfl (lv_at hl 1 rfl) ?_
  refine lv_iload_n hx hb dL_setRule_5 rfl (lv_at hl 2 rfl) ?_
  refine lv_iload_n hx hb dL_setRule_6 rfl (lv_at hl 3 rfl) ?_
  refine lv_iload hx hb dL_setRule_7 (lv_at hl 4 rfl) ?_
  refine lv_iload hx hb dL_setRule_9 (lv_at hl 5 rfl) ?_
  have k_1 := hok.1
  have hok := hok.2
  refine xw_V (own := RL) (cs := [[(qh0, .inr (11, [.ref (va 0), .ref q_snapshot, .int q.1, .ref hih0, .ref q_program, .ref q_notice, .int q.2.1, .int q.2.2]))], wSt G va v, [(hih0, .inr (7, [.int hi.1, .int hi.2, .ref hsh]))], wHs G hsh hsa hs]) (rs := [[(owh, .inl (G.2.1 3, 1, .inr (.inl ow)))]]) (As := [.int dr, .int ph, .int fh, .int lh, .int ke]) (rest := [.int (0 : Int32), .ref owh]) (c_X9_setRuleS l hlf G qh0 q_snapshot q_program q_notice va hih0 hsh hsa s.heap.size q v hi hs dr ph fh lh ke k_1) ⟨hx, hb, hml, hown, hts⟩ g_L_17 hdv_X9_setRule hK hST hS hP hD hA [0, 1, 2, 3] [4] rfl rfl rfl (k0 := 0) rfl rfl rfl ⟨Nat.le_of_ble_eq_true rfl, Nat.le_of_ble_eq_true rfl⟩ ⟨Nat.le_of_ble_eq_true rfl, Nat.le_of_ble_eq_true rfl⟩ rfl hl.1 rfl (Nat.le_of_ble_eq_true rfl) dL_setRule_11 (fun E ce q9 H locs hE hP hS h3 h4 h5 => ?_) (fun u_3 H locs huu hP hD hS => ?_)
  rotate_left
  obtain ⟨huu, b_2⟩ := huu
  rw [← huu] at b_2
  have eu_3 := huu
  have hP : va_P G.1 vwCl (fl [[(qh0, .inr (11, [.ref (va 0), .ref q_snapshot, .int q.1, .ref hih0, .ref q_program, .ref q_notice, .int q.2.1, .int q.2.2]))], wSt G va u_3.2.2.1, [(hih0, .inr (7, [.int u_3.2.2.2.1.1, .int u_3.2.2.2.1.2, .ref hsh]))], wHs G hsh hsa u_3.2.2.2.2, [(owh, .inl (G.2.1 3, 1, .inr (.inl ow)))]]) H := hP
  have hD : va_D A (fl [[(qh0, .inr (11, [.ref (va 0), .ref q_snapshot, .int q.1, .ref hih0, .ref q_program, .ref q_notice, .int q.2.1, .int q.2.2]))], wSt G va u_3.2.2.1, [(hih0, .inr (7, [.int u_3.2.2.2.1.1, .int u_3.2.2.2.1.2, .ref hsh]))], wHs G hsh hsa u_3.2.2.2.2, [(owh, .inl (G.2.1 3, 1, .inr (.inl ow)))]]) := hD
  refine W.eq (g2 := F0 m 14 ls [.int u_3.2.1, .int (0 : Int32), .ref owh]) rfl ?_
  have hE := b_2.1
  have hF : f_L_setRule q v hi hs dr ph fh lh ke ow = (if u_3.1 = "" then ((0 : Int32), u_3.2.2.1, u_3.2.2.2.1, u_3.2.2.2.2, (vp_updL ow (0 : Int32).toNatClampNeg u_3.2.1.toInt64)) else (if (f_X9_setRule q v hi hs dr ph fh lh ke).1 = "java/lang/IndexOutOfBoundsException" then ((1 : Int32), v, hi, hs, ow) else (if (f_X9_setRule q v hi hs dr ph fh lh ke).1 = "java/lang/IllegalArgumentException" then ((2 : Int32), v, hi, hs, ow) else (0, v, hi, hs, ow)))) := by subst eu_3; exact hF
  have hF := hF.trans (if_pos hE)
  have hok : (if u_3.1 = "" then True else (if (f_X9_setRule q v hi hs dr ph fh lh ke).1 = "java/lang/IndexOutOfBoundsException" then True else (if (f_X9_setRule q v hi hs dr ph fh lh ke).1 = "java/lang/IllegalArgumentException" then True else False))) := by subst eu_3; exact hok
  have hok := Eq.mp (if_pos hE) hok
  refine lv_i2l hx hb dL_setRule_14 rfl ?_
  refine va_last hx hb hK hP hD hS 203 3 rfl rfl (vp_in_nI (n := 0) (by decide) (by decide)) dL_setRule_15 (fun H locs hP hD hS => ?_)
  have hP : va_P G.1 vwCl (fl [[(qh0, .inr (11, [.ref (va 0), .ref q_snapshot, .int q.1, .ref hih0, .ref q_program, .ref q_notice, .int q.2.1, .int q.2.2]))], wSt G va u_3.2.2.1, [(hih0, .inr (7, [.int u_3.2.2.2.1.1, .int u_3.2.2.2.1.2, .ref hsh]))], wHs G hsh hsa u_3.2.2.2.2, [(owh, .inl (G.2.1 3, 1, .inr (.inl (vp_updL ow (0 : Int32).toNatClampNeg u_3.2.1.toInt64))))]]) H := hP
  have hD : va_D A (fl [[(qh0, .inr (11, [.ref (va 0), .ref q_snapshot, .int q.1, .ref hih0, .ref q_program, .ref q_notice, .int q.2.1, .int q.2.2]))], wSt G va u_3.2.2.1, [(hih0, .inr (7, [.int u_3.2.2.2.1.1, .int u_3.2.2.2.1.2, .ref hsh]))], wHs G hsh hsa u_3.2.2.2.2, [(owh, .inl (G.2.1 3, 1, .inr (.inl (vp_updL ow (0 : Int32).toNatClampNeg u_3.2.1.toInt64))))]]) := hD
  refine lv_goto (tgt := 27) hx hb dL_setRule_16 (by decide) ?_
  refine lv_iconst (v := (0 : Int32)) hx hb dL_setRule_27 (by decide) ?_
  exact w_ret (u := ((0 : Int32), u_3.2.2.1, u_3.2.2.2.1, u_3.2.2.2.2, (vp_updL ow (0 : Int32).toNatClampNeg u_3.2.1.toInt64))) hx hb hr hlk rfl hS rfl hF.symm hP hD (Nat.le_of_ble_eq_true rfl) (Nat.le_of_ble_eq_true rfl) dL_setRule_28
  have hF := hF.trans (if_neg (fun e => hE.2 (hE.1.trans e)))
  have hok := Eq.mp (if_neg (fun e => hE.2 (hE.1.trans e))) hok
  by_cases c_4 : (f_X9_setRule q v hi hs dr ph fh lh ke).1 = "java/lang/IndexOutOfBoundsException"
  · have hF := hF.trans (if_pos c_4)
    have hok := Eq.mp (if_pos c_4) hok
    have hEE : E = "java/lang/IndexOutOfBoundsException" := hE.1.trans c_4
    subst hEE
    refine vx_catch (own := RL) (name := "java/lang/IndexOutOfBoundsException") hown [] (⟨0, 16, 19, 21⟩ : ExceptionTableEntry) [(⟨0, 16, 23, 13⟩ : ExceptionTableEntry)] (hxt.trans rfl) (fun z hz => nomatch hz) (by decide) (by decide) (hts _ u_608) (va_tabs rfl rfl (hST.2.2.2.2.2.2.2.1 _ cst_IndexOutOfBoundsException)) h3 h4 h5 ?_
    refine W.eq (g2 := F0 m 19 ls [.ref q9]) rfl ?_
    refine lv_astore (lv' := [(7, .ref q9), (0, .ref qh0), (1, .int dr), (2, .int ph), (3, .int fh), (4, .int lh), (5, .int ke), (6, .ref owh)]) hx hb dL_setRule_19 hl (by decide) rfl (fun ls hl => ?_)
    refine lv_iconst (v := (1 : Int32)) hx hb dL_setRule_21 (by decide) ?_
    exact w_ret (u := ((1 : Int32), v, hi, hs, ow)) hx hb hr hlk rfl hS rfl hF.symm hP hD (Nat.le_of_ble_eq_true rfl) (Nat.le_of_ble_eq_true rfl) dL_setRule_22
  · have hF := hF.trans (if_neg c_4)
    have hok := Eq.mp (if_neg c_4) hok
    by_cases c_5 : (f_X9_setRule q v hi hs dr ph fh lh ke).1 = "java/lang/IllegalArgumentException"
    · have hF := hF.trans (if_pos c_5)
      have hok := Eq.mp (if_pos c_5) hok
      have hEE : E = "java/lang/IllegalArgumentException" := hE.1.trans c_5
      subst hEE
      refine vx_catch (own := RL) (name := "java/lang/IllegalArgumentException") hown [(⟨0, 16, 19, 21⟩ : ExceptionTableEntry)] (⟨0, 16, 23, 13⟩ : ExceptionTableEntry) [] (hxt.trans rfl) (List.forall_mem_cons.mpr ⟨Or.inr ⟨by decide, "java/lang/IndexOutOfBoundsException", hts _ u_608, hST.2.2.2.2.2.2.2.2.1 ("java/lang/IllegalArgumentException", "java/lang/IndexOutOfBoundsException") (by decide +kernel)⟩, fun _ h => nomatch h⟩) (by decide) (by decide) (hts _ u_403) (va_tabs rfl rfl (hST.2.2.2.2.2.2.2.1 _ cst_IllegalArgumentException)) h3 h4 h5 ?_
      refine W.eq (g2 := F0 m 23 ls [.ref q9]) rfl ?_
      refine lv_astore (lv' := [(7, .ref q9), (0, .ref qh0), (1, .int dr), (2, .int ph), (3, .int fh), (4, .int lh), (5, .int ke), (6, .ref owh)]) hx hb dL_setRule_23 hl (by decide) rfl (fun ls hl => ?_)
      refine lv_iconst (v := (2 : Int32)) hx hb dL_setRule_25 (by decide) ?_
      exact w_ret (u := ((2 : Int32), v, hi, hs, ow)) hx hb hr hlk rfl hS rfl hF.symm hP hD (Nat.le_of_ble_eq_true rfl) (Nat.le_of_ble_eq_true rfl) dL_setRule_26
    · have hF := hF.trans (if_neg c_5)
      have hok := Eq.mp (if_neg c_5) hok
      exact hok.elim
theorem dL_addException_0 : decode cL_addException 0 = .ok (.aload 4, 2) := by decide +kernel
theorem dL_addException_2 : decode cL_addException 2 = .ok (.iconst 0, 1) := by decide +kernel
theorem dL_addException_3 : decode cL_addException 3 = .ok (.aload_n 0, 1) := by decide +kernel
theorem dL_addException_4 : decode cL_addException 4 = .ok (.iload_n 1, 1) := by decide +kernel
theorem dL_addException_5 : decode cL_addException 5 = .ok (.iload_n 2, 1) := by decide +kernel
theorem dL_addException_6 : decode cL_addException 6 = .ok (.iload_n 3, 1) := by decide +kernel
theorem dL_addException_7 : decode cL_addException 7 = .ok (.invokevirtual 23, 3) := by decide +kernel
theorem u_655 : Cond.methodLink RL 23 yX9_addException ∈ UW := uw 655 (by decide +kernel) rfl
theorem u_656 : Cond.instanceMethod yX9_addException ∈ UW := uw 656 (by decide +kernel) rfl
theorem u_657 : Cond.selects RX9 yX9_addException yX9_addException ∈ UW := uw 657 (by decide +kernel) rfl
theorem u_658 : Cond.code yX9_addException cX9_addException 4 (some .int) ∈ UW := uw 658 (by decide +kernel) rfl
theorem g_L_23 : GoodIn UW (wsV RL 23 RX9 yX9_addException (wsU yX9_addException cX9_addException 4 (some .int))) := gV u_655 u_656 u_657 u_65 u_658
theorem hdv_X9_addException : yX9_addException.cls = RX9 ∧ yX9_addException.cls ≠ "java/lang/invoke/MethodHandle" ∧ yX9_addException.cls ≠ "java/lang/invoke/VarHandle" ∧ (parseMethodDescriptor yX9_addException.desc).map (fun d => d.parameters.length) = some 3 := by decide +kernel
theorem dL_addException_10 : decode cL_addException 10 = .ok (.i2l, 1) := by decide +kernel
theorem dL_addException_11 : decode cL_addException 11 = .ok (.lastore, 1) := by decide +kernel
theorem dL_addException_12 : decode cL_addException 12 = .ok (.goto 19, 3) := by decide +kernel
theorem dL_addException_31 : decode cL_addException 31 = .ok (.iconst 0, 1) := by decide +kernel
theorem dL_addException_32 : decode cL_addException 32 = .ok (.ireturn, 1) := by decide +kernel
theorem dL_addException_15 : decode cL_addException 15 = .ok (.astore 5, 2) := by decide +kernel
theorem dL_addException_17 : decode cL_addException 17 = .ok (.iconst 1, 1) := by decide +kernel
theorem dL_addException_18 : decode cL_addException 18 = .ok (.ireturn, 1) := by decide +kernel
theorem dL_addException_19 : decode cL_addException 19 = .ok (.astore 5, 2) := by decide +kernel
theorem dL_addException_21 : decode cL_addException 21 = .ok (.iconst 2, 1) := by decide +kernel
theorem dL_addException_22 : decode cL_addException 22 = .ok (.ireturn, 1) := by decide +kernel
theorem u_654 : Cond.classLink RL 27 "java/lang/UnsupportedOperationException" ∈ UW := uw 654 (by decide +kernel) rfl
theorem cst_UnsupportedOperationException : Cond.castable "java/lang/UnsupportedOperationException" "java/lang/UnsupportedOperationException" ∈ CW := cwm 521 (by decide +kernel) rfl
theorem dL_addException_23 : decode cL_addException 23 = .ok (.astore 5, 2) := by decide +kernel
theorem dL_addException_25 : decode cL_addException 25 = .ok (.iconst 3, 1) := by decide +kernel
theorem dL_addException_26 : decode cL_addException 26 = .ok (.ireturn, 1) := by decide +kernel
theorem dL_addException_27 : decode cL_addException 27 = .ok (.astore 5, 2) := by decide +kernel
theorem dL_addException_29 : decode cL_addException 29 = .ok (.iconst 4, 1) := by decide +kernel
theorem dL_addException_30 : decode cL_addException 30 = .ok (.ireturn, 1) := by decide +kernel
def f_L_addException (q : McV) (v : StV) (hi : HiV) (hs : Nat → StV) (dr : Int32) (dy : Int32) (op : Int32) (ow : Nat → Int64) : Int32 × StV × HiV × (Nat → StV) × (Nat → Int64) := (let u_3 : String × Int32 × StV × HiV × (Nat → StV) := (f_X9_addException q v hi hs dr dy op); (if u_3.1 = "" then ((0 : Int32), u_3.2.2.1, u_3.2.2.2.1, u_3.2.2.2.2, (vp_updL ow (0 : Int32).toNatClampNeg u_3.2.1.toInt64)) else (if (f_X9_addException q v hi hs dr dy op).1 = "java/lang/IndexOutOfBoundsException" then ((1 : Int32), v, hi, hs, ow) else (if (f_X9_addException q v hi hs dr dy op).1 = "java/lang/IllegalArgumentException" then ((2 : Int32), v, hi, hs, ow) else (if (f_X9_addException q v hi hs dr dy op).1 = "java/lang/UnsupportedOperationException" then ((3 : Int32), v, hi, hs, ow) else (if (f_X9_addException q v hi hs dr dy op).1 = "java/lang/IllegalStateException" then ((4 : Int32), v, hi, hs, ow) else (0, v, hi, hs, ow)))))))
def ok_L_addException (q : McV) (v : StV) (hi : HiV) (hs : Nat → StV) (dr : Int32) (dy : Int32) (op : Int32) (ow : Nat → Int64) : Prop := (nx9 hi.2 ∧ (let u_3 : String × Int32 × StV × HiV × (Nat → StV) := (f_X9_addException q v hi hs dr dy op); (if u_3.1 = "" then True else (if (f_X9_addException q v hi hs dr dy op).1 = "java/lang/IndexOutOfBoundsException" then True else (if (f_X9_addException q v hi hs dr dy op).1 = "java/lang/IllegalArgumentException" then True else (if (f_X9_addException q v hi hs dr dy op).1 = "java/lang/UnsupportedOperationException" then True else (if (f_X9_addException q v hi hs dr dy op).1 = "java/lang/IllegalStateException" then True else False)))))))
set_option maxHeartbeats 8000000 in
set_option maxRecDepth 100000 in
set_option linter.constructorNameAsVariable false in
theorem c_L_addException (l : Launch) (hlf : l.stackTraces = false) (G : GG) (qh0 : Nat) (q_snapshot : Nat) (q_program : Nat) (q_notice : Nat) (va : Nat → Nat) (hih0 : Nat) (hsh : Nat) (hsa : Nat → Nat → Nat) (owh : Nat) (sz : Nat) (q : McV) (v : StV) (hi : HiV) (hs : Nat → StV) (dr : Int32) (dy : Int32) (op : Int32) (ow : Nat → Int64) (hok : ok_L_addException q v hi hs dr dy op ow) : wMetH l yL_addException cL_addException 6 (some .int) [(0, 12, 15, 21), (0, 12, 19, 13), (0, 12, 23, 27), (0, 12, 27, 15)] 10 1 6 G (fl [[(qh0, .inr (11, [.ref (va 0), .ref q_snapshot, .int q.1, .ref hih0, .ref q_program, .ref q_notice, .int q.2.1, .int q.2.2]))], wSt G va v, [(hih0, .inr (7, [.int hi.1, .int hi.2, .ref hsh]))], wHs G hsh hsa hs, [(owh, .inl (G.2.1 3, 1, .inr (.inl ow)))]]) [.ref qh0, .int dr, .int dy, .int op, .ref owh] sz (fun u : Int32 × StV × HiV × (Nat → StV) × (Nat → Int64) => some (.int u.1)) (fun u : Int32 × StV × HiV × (Nat → StV) × (Nat → Int64) => u = f_L_addException q v hi hs dr dy op ow) (fun u : Int32 × StV × HiV × (Nat → StV) × (Nat → Int64) => fl [[(qh0, .inr (11, [.ref (va 0), .ref q_snapshot, .int q.1, .ref hih0, .ref q_program, .ref q_notice, .int q.2.1, .int q.2.2]))], wSt G va u.2.1, [(hih0, .inr (7, [.int u.2.2.1.1, .int u.2.2.1.2, .ref hsh]))], wHs G hsh hsa u.2.2.2.1, [(owh, .inl (G.2.1 3, 1, .inr (.inl u.2.2.2.2)))]]) := by
  refine w_startH (by decide +kernel) (Nat.le_of_ble_eq_true rfl) ?_
  intro p e s m below meth c A hx hb hr hml hts hown hlk hin hxt hP hD hA hK hST ls hl
  have hS : va_S A s.heap s.heap [] := va_S.rf
  have hown : s.vm.findClass RL = some m.cls := hown
  have hl : lv_has ls 6 [(0, .ref qh0), (1, .int dr), (2, .int dy), (3, .int op), (4, .ref owh)] := hl
  have hF : f_L_addException q v hi hs dr dy op ow = (let u_3 : String × Int32 × StV × HiV × (Nat → StV) := (f_X9_addException q v hi hs dr dy op); (if u_3.1 = "" then ((0 : Int32), u_3.2.2.1, u_3.2.2.2.1, u_3.2.2.2.2, (vp_updL ow (0 : Int32).toNatClampNeg u_3.2.1.toInt64)) else (if (f_X9_addException q v hi hs dr dy op).1 = "java/lang/IndexOutOfBoundsException" then ((1 : Int32), v, hi, hs, ow) else (if (f_X9_addException q v hi hs dr dy op).1 = "java/lang/IllegalArgumentException" then ((2 : Int32), v, hi, hs, ow) else (if (f_X9_addException q v hi hs dr dy op).1 = "java/lang/UnsupportedOperationException" then ((3 : Int32), v, hi, hs, ow) else (if (f_X9_addException q v hi hs dr dy op).1 = "java/lang/IllegalStateException" then ((4 : Int32), v, hi, hs, ow) else (0, v, hi, hs, ow))))))) := rfl
  have hok : (nx9 hi.2 ∧ (let u_3 : String × Int32 × StV × HiV × (Nat → StV) := (f_X9_addException q v hi hs dr dy op); (if u_3.1 = "" then True else (if (f_X9_addException q v hi hs dr dy op).1 = "java/lang/IndexOutOfBoundsException" then True else (if (f_X9_addException q v hi hs dr dy op).1 = "java/lang/IllegalArgumentException" then True else (if (f_X9_addException q v hi hs dr dy op).1 = "java/lang/UnsupportedOperationException" then True else (if (f_X9_addException q v hi hs dr dy op).1 = "java/lang/IllegalStateException" then True else False))))))) := hok
  refine lv_aload hx hb dL_addException_0 (lv_at hl 4 rfl) ?_
  refine lv_iconst (v := (0 : Int32)) hx hb dL_addException_2 (by decide) ?_
  refine lv_aload_n hx hb dL_addException_3 rfl (lv_at hl 0 rfl) ?_
  refine lv_iload_n hx hb dL_addException_4 rfl (lv_at hl 1 rfl) ?_
  refine lv_iload_n hx hb dL_addException_5 rfl (lv_at hl 2 rfl) ?_
  refine lv_iload_n hx hb dL_addException_6 rfl (lv_at hl 3 rfl) ?_
  have k_1 := hok.1
  have hok := hok.2
  refine xw_V (own := RL) (cs := [[(qh0, .inr (11, [.ref (va 0), .ref q_snapshot, .int q.1, .ref hih0, .ref q_program, .ref q_notice, .int q.2.1, .int q.2.2]))], wSt G va v, [(hih0, .inr (7, [.int hi.1, .int hi.2, .ref hsh]))], wHs G hsh hsa hs]) (rs := [[(owh, .inl (G.2.1 3, 1, .inr (.inl ow)))]]) (As := [.int dr, .int dy, .int op]) (rest := [.int (0 : Int32), .ref owh]) (c_X9_addExceptionS l hlf G qh0 q_snapshot q_program q_notice va hih0 hsh hsa s.heap.size q v hi hs dr dy op k_1) ⟨hx, hb, hml, hown, hts⟩ g_L_23 hdv_X9_addException hK hST hS hP hD hA [0, 1, 2, 3] [4] rfl rfl rfl (k0 := 0) rfl rfl rfl ⟨Nat.le_of_ble_eq_true rfl, Nat.le_of_ble_eq_true rfl⟩ ⟨Nat.le_of_ble_eq_true rfl, Nat.le_of_ble_eq_true rfl⟩ rfl hl.1 rfl (Nat.le_of_ble_eq_true rfl) dL_addException_7 (fun E ce q9 H locs hE hP hS h3 h4 h5 => ?_) (fun u_3 H locs huu hP hD hS => ?_)
  rotate_left
  obtain ⟨huu, b_2⟩ := huu
  rw [← huu] at b_2
  have eu_3 := huu
  have hP : va_P G.1 vwCl (fl [[(qh0, .inr (11, [.ref (va 0), .ref q_snapshot, .int q.1, .ref hih0, .ref q_program, .ref q_notice, .int q.2.1, .int q.2.2]))], wSt G va u_3.2.2.1, [(hih0, .inr (7, [.int u_3.2.2.2.1.1, .int u_3.2.2.2.1.2, .ref hsh]))], wHs G hsh hsa u_3.2.2.2.2, [(owh, .inl (G.2.1 3, 1, .inr (.inl ow)))]]) H := hP
  have hD : va_D A (fl [[(qh0, .inr (11, [.ref (va 0), .ref q_snapshot, .int q.1, .ref hih0, .ref q_program, .ref q_notice, .int q.2.1, .int q.2.2]))], wSt G va u_3.2.2.1, [(hih0, .inr (7, [.int u_3.2.2.2.1.1, .int u_3.2.2.2.1.2, .ref hsh]))], wHs G hsh hsa u_3.2.2.2.2, [(owh, .inl (G.2.1 3, 1, .inr (.inl ow)))]]) := hD
  refine W.eq (g2 := F0 m 10 ls [.int u_3.2.1, .int (0 : Int32), .ref owh]) rfl ?_
  have hE := b_2.1
  have hF : f_L_addException q v hi hs dr dy op ow = (if u_3.1 = "" then ((0 : Int32), u_3.2.2.1, u_3.2.2.2.1, u_3.2.2.2.2, (vp_updL ow (0 : Int32).toNatClampNeg u_3.2.1.toInt64)) else (if (f_X9_addException q v hi hs dr dy op).1 = "java/lang/IndexOutOfBoundsException" then ((1 : Int32), v, hi, hs, ow) else (if (f_X9_addException q v hi hs dr dy op).1 = "java/lang/IllegalArgumentException" then ((2 : Int32), v, hi, hs, ow) else (if (f_X9_addException q v hi hs dr dy op).1 = "java/lang/UnsupportedOperationException" then ((3 : Int32), v, hi, hs, ow) else (if (f_X9_addException q v hi hs dr dy op).1 = "java/lang/IllegalStateException" then ((4 : Int32), v, hi, hs, ow) else (0, v, hi, hs, ow)))))) := by subst eu_3; exact hF
  have hF := hF.trans (if_pos hE)
  have hok : (if u_3.1 = "" then True else (if (f_X9_addException q v hi hs dr dy op).1 = "java/lang/IndexOutOfBoundsException" then True else (if (f_X9_addException q v hi hs dr dy op).1 = "java/lang/IllegalArgumentException" then True else (if (f_X9_addException q v hi hs dr dy op).1 = "java/lang/UnsupportedOperationException" then True else (if (f_X9_addException q v hi hs dr dy op).1 = "java/lang/IllegalStateException" then True else False))))) := by subst eu_3; exact hok
  have hok := Eq.mp (if_pos hE) hok
  refine lv_i2l hx hb dL_addException_10 rfl ?_
  refine va_last hx hb hK hP hD hS 203 3 rfl rfl (vp_in_nI (n := 0) (by decide) (by decide)) dL_addException_11 (fun H locs hP hD hS => ?_)
  have hP : va_P G.1 vwCl (fl [[(qh0, .inr (11, [.ref (va 0), .ref q_snapshot, .int q.1, .ref hih0, .ref q_program, .ref q_notice, .int q.2.1, .int q.2.2]))], wSt G va u_3.2.2.1, [(hih0, .inr (7, [.int u_3.2.2.2.1.1, .int u_3.2.2.2.1.2, .ref hsh]))], wHs G hsh hsa u_3.2.2.2.2, [(owh, .inl (G.2.1 3, 1, .inr (.inl (vp_updL ow (0 : Int32).toNatClampNeg u_3.2.1.toInt64))))]]) H := hP
  have hD : va_D A (fl [[(qh0, .inr (11, [.ref (va 0), .ref q_snapshot, .int q.1, .ref hih0, .ref q_program, .ref q_notice, .int q.2.1, .int q.2.2]))], wSt G va u_3.2.2.1, [(hih0, .inr (7, [.int u_3.2.2.2.1.1, .int u_3.2.2.2.1.2, .ref hsh]))], wHs G hsh hsa u_3.2.2.2.2, [(owh, .inl (G.2.1 3, 1, .inr (.inl (vp_updL ow (0 : Int32).toNatClampNeg u_3.2.1.toInt64))))]]) := hD
  refine lv_goto (tgt := 31) hx hb dL_addException_12 (by decide) ?_
  refine lv_iconst (v := (0 : Int32)) hx hb dL_addException_31 (by decide) ?_
  exact w_ret (u := ((0 : Int32), u_3.2.2.1, u_3.2.2.2.1, u_3.2.2.2.2, (vp_updL ow (0 : Int32).toNatClampNeg u_3.2.1.toInt64))) hx hb hr hlk rfl hS rfl hF.symm hP hD (Nat.le_of_ble_eq_true rfl) (Nat.le_of_ble_eq_true rfl) dL_addException_32
  have hF := hF.trans (if_neg (fun e => hE.2 (hE.1.trans e)))
  have hok := Eq.mp (if_neg (fun e => hE.2 (hE.1.trans e))) hok
  by_cases c_4 : (f_X9_addException q v hi hs dr dy op).1 = "java/lang/IndexOutOfBoundsException"
  · have hF := hF.trans (if_pos c_4)
    have hok := Eq.mp (if_pos c_4) hok
    have hEE : E = "java/lang/IndexOutOfBoundsException" := hE.1.trans c_4
    subst hEE
    refine vx_catch (own := RL) (name := "java/lang/IndexOutOfBoundsException") hown [] (⟨0, 12, 15, 21⟩ : ExceptionTableEntry) [(⟨0, 12, 19, 13⟩ : ExceptionTableEntry), (⟨0, 12, 23, 27⟩ : ExceptionTableEntry), (⟨0, 12, 27, 15⟩ : ExceptionTableEntry)] (hxt.trans rfl) (fun z hz => nomatch hz) (by decide) (by decide) (hts _ u_608) (va_tabs rfl rfl (hST.2.2.2.2.2.2.2.1 _ cst_IndexOutOfBoundsException)) h3 h4 h5 ?_
    refine W.eq (g2 := F0 m 15 ls [.ref q9]) rfl ?_
    refine lv_astore (lv' := [(5, .ref q9), (0, .ref qh0), (1, .int dr), (2, .int dy), (3, .int op), (4, .ref owh)]) hx hb dL_addException_15 hl (by decide) rfl (fun ls hl => ?_)
    refine lv_iconst (v := (1 : Int32)) hx hb dL_addException_17 (by decide) ?_
    exact w_ret (u := ((1 : Int32), v, hi, hs, ow)) hx hb hr hlk rfl hS rfl hF.symm hP hD (Nat.le_of_ble_eq_true rfl) (Nat.le_of_ble_eq_true rfl) dL_addException_18
  · have hF := hF.trans (if_neg c_4)
    have hok := Eq.mp (if_neg c_4) hok
    by_cases c_5 : (f_X9_addException q v hi hs dr dy op).1 = "java/lang/IllegalArgumentException"
    · have hF := hF.trans (if_pos c_5)
      have hok := Eq.mp (if_pos c_5) hok
      have hEE : E = "java/lang/IllegalArgumentException" := hE.1.trans c_5
      subst hEE
      refine vx_catch (own := RL) (name := "java/lang/IllegalArgumentException") hown [(⟨0, 12, 15, 21⟩ : ExceptionTableEntry)] (⟨0, 12, 19, 13⟩ : ExceptionTableEntry) [(⟨0, 12, 23, 27⟩ : ExceptionTableEntry), (⟨0, 12, 27, 15⟩ : ExceptionTableEntry)] (hxt.trans rfl) (List.forall_mem_cons.mpr ⟨Or.inr ⟨by decide, "java/lang/IndexOutOfBoundsException", hts _ u_608, hST.2.2.2.2.2.2.2.2.1 ("java/lang/IllegalArgumentException", "java/lang/IndexOutOfBoundsException") (by decide +kernel)⟩, fun _ h => nomatch h⟩) (by decide) (by decide) (hts _ u_403) (va_tabs rfl rfl (hST.2.2.2.2.2.2.2.1 _ cst_IllegalArgumentException)) h3 h4 h5 ?_
      refine W.eq (g2 := F0 m 19 ls [.ref q9]) rfl ?_
      refine lv_astore (lv' := [(5, .ref q9), (0, .ref qh0), (1, .int dr), (2, .int dy), (3, .int op), (4, .ref owh)]) hx hb dL_addException_19 hl (by decide) rfl (fun ls hl => ?_)
      refine lv_iconst (v := (2 : Int32)) hx hb dL_addException_21 (by decide) ?_
      exact w_ret (u := ((2 : Int32), v, hi, hs, ow)) hx hb hr hlk rfl hS rfl hF.symm hP hD (Nat.le_of_ble_eq_true rfl) (Nat.le_of_ble_eq_true rfl) dL_addException_22
    · have hF := hF.trans (if_neg c_5)
      have hok := Eq.mp (if_neg c_5) hok
      by_cases c_6 : (f_X9_addException q v hi hs dr dy op).1 = "java/lang/UnsupportedOperationException"
      · have hF := hF.trans (if_pos c_6)
        have hok := Eq.mp (if_pos c_6) hok
        have hEE : E = "java/lang/UnsupportedOperationException" := hE.1.trans c_6
        subst hEE
        refine vx_catch (own := RL) (name := "java/lang/UnsupportedOperationException") hown [(⟨0, 12, 15, 21⟩ : ExceptionTableEntry), (⟨0, 12, 19, 13⟩ : ExceptionTableEntry)] (⟨0, 12, 23, 27⟩ : ExceptionTableEntry) [(⟨0, 12, 27, 15⟩ : ExceptionTableEntry)] (hxt.trans rfl) (List.forall_mem_cons.mpr ⟨Or.inr ⟨by decide, "java/lang/IndexOutOfBoundsException", hts _ u_608, hST.2.2.2.2.2.2.2.2.1 ("java/lang/UnsupportedOperationException", "java/lang/IndexOutOfBoundsException") (by decide +kernel)⟩, List.forall_mem_cons.mpr ⟨Or.inr ⟨by decide, "java/lang/IllegalArgumentException", hts _ u_403, hST.2.2.2.2.2.2.2.2.1 ("java/lang/UnsupportedOperationException", "java/lang/IllegalArgumentException") (by decide +kernel)⟩, fun _ h => nomatch h⟩⟩) (by decide) (by decide) (hts _ u_654) (va_tabs rfl rfl (hST.2.2.2.2.2.2.2.1 _ cst_UnsupportedOperationException)) h3 h4 h5 ?_
        refine W.eq (g2 := F0 m 23 ls [.ref q9]) rfl ?_
        refine lv_astore (lv' := [(5, .ref q9), (0, .ref qh0), (1, .int dr), (2, .int dy), (3, .int op), (4, .ref owh)]) hx hb dL_addException_23 hl (by decide) rfl (fun ls hl => ?_)
        refine lv_iconst (v := (3 : Int32)) hx hb dL_addException_25 (by decide) ?_
        exact w_ret (u := ((3 : Int32), v, hi, hs, ow)) hx hb hr hlk rfl hS rfl hF.symm hP hD (Nat.le_of_ble_eq_true rfl) (Nat.le_of_ble_eq_true rfl) dL_addException_26
      · have hF := hF.trans (if_neg c_6)
        have hok := Eq.mp (if_neg c_6) hok
        by_cases c_7 : (f_X9_addException q v hi hs dr dy op).1 = "java/lang/IllegalStateException"
        · have hF := hF.trans (if_pos c_7)
          have hok := Eq.mp (if_pos c_7) hok
          have hEE : E = "java/lang/IllegalStateException" := hE.1.trans c_7
          subst hEE
          refine vx_catch (own := RL) (name := "java/lang/IllegalStateException") hown [(⟨0, 12, 15, 21⟩ : ExceptionTableEntry), (⟨0, 12, 19, 13⟩ : ExceptionTableEntry), (⟨0, 12, 23, 27⟩ : ExceptionTableEntry)] (⟨0, 12, 27, 15⟩ : ExceptionTableEntry) [] (hxt.trans rfl) (List.forall_mem_cons.mpr ⟨Or.inr ⟨by decide, "java/lang/IndexOutOfBoundsException", hts _ u_608, hST.2.2.2.2.2.2.2.2.1 ("java/lang/IllegalStateException", "java/lang/IndexOutOfBoundsException") (by decide +kernel)⟩, List.forall_mem_cons.mpr ⟨Or.inr ⟨by decide, "java/lang/IllegalArgumentException", hts _ u_403, hST.2.2.2.2.2.2.2.2.1 ("java/lang/IllegalStateException", "java/lang/IllegalArgumentException") (by decide +kernel)⟩, List.forall_mem_cons.mpr ⟨Or.inr ⟨by decide, "java/lang/UnsupportedOperationException", hts _ u_654, hST.2.2.2.2.2.2.2.2.1 ("java/lang/IllegalStateException", "java/lang/UnsupportedOperationException") (by decide +kernel)⟩, fun _ h => nomatch h⟩⟩⟩) (by decide) (by decide) (hts _ u_404) (va_tabs rfl rfl (hST.2.2.2.2.2.2.2.1 _ cst_IllegalStateException)) h3 h4 h5 ?_
          refine W.eq (g2 := F0 m 27 ls [.ref q9]) rfl ?_
          refine lv_astore (lv' := [(5, .ref q9), (0, .ref qh0), (1, .int dr), (2, .int dy), (3, .int op), (4, .ref owh)]) hx hb dL_addException_27 hl (by decide) rfl (fun ls hl => ?_)
          refine lv_iconst (v := (4 : Int32)) hx hb dL_addException_29 (by decide) ?_
          exact w_ret (u := ((4 : Int32), v, hi, hs, ow)) hx hb hr hlk rfl hS rfl hF.symm hP hD (Nat.le_of_ble_eq_true rfl) (Nat.le_of_ble_eq_true rfl) dL_addException_30
        · have hF := hF.trans (if_neg c_7)
          have hok := Eq.mp (if_neg c_7) hok
          exact hok.elim
theorem dL_liftException_0 : decode cL_liftException 0 = .ok (.aload_n 3, 1) := by decide +kernel
theorem dL_liftException_1 : decode cL_liftException 1 = .ok (.iconst 0, 1) := by decide +kernel
theorem dL_liftException_2 : decode cL_liftException 2 = .ok (.aload_n 0, 1) := by decide +kernel
theorem dL_liftException_3 : decode cL_liftException 3 = .ok (.iload_n 1, 1) := by decide +kernel
theorem dL_liftException_4 : decode cL_liftException 4 = .ok (.iload_n 2, 1) := by decide +kernel
theorem dL_liftException_5 : decode cL_liftException 5 = .ok (.invokevirtual 29, 3) := by decide +kernel
theorem u_690 : Cond.methodLink RL 29 yX9_liftException ∈ UW := uw 690 (by decide +kernel) rfl
theorem u_691 : Cond.instanceMethod yX9_liftException ∈ UW := uw 691 (by decide +kernel) rfl
theorem u_692 : Cond.selects RX9 yX9_liftException yX9_liftException ∈ UW := uw 692 (by decide +kernel) rfl
theorem u_693 : Cond.code yX9_liftException cX9_liftException 3 (some .boolean) ∈ UW := uw 693 (by decide +kernel) rfl
theorem g_L_29 : GoodIn UW (wsV RL 29 RX9 yX9_liftException (wsU yX9_liftException cX9_liftException 3 (some .boolean))) := gV u_690 u_691 u_692 u_65 u_693
theorem hdv_X9_liftException : yX9_liftException.cls = RX9 ∧ yX9_liftException.cls ≠ "java/lang/invoke/MethodHandle" ∧ yX9_liftException.cls ≠ "java/lang/invoke/VarHandle" ∧ (parseMethodDescriptor yX9_liftException.desc).map (fun d => d.parameters.length) = some 2 := by decide +kernel
theorem dL_liftException_8 : decode cL_liftException 8 = .ok (.ifCond .eq 7, 3) := by decide +kernel
theorem dL_liftException_15 : decode cL_liftException 15 = .ok (.lconst 0, 1) := by decide +kernel
theorem dL_liftException_16 : decode cL_liftException 16 = .ok (.lastore, 1) := by decide +kernel
theorem dL_liftException_17 : decode cL_liftException 17 = .ok (.goto 11, 3) := by decide +kernel
theorem dL_liftException_28 : decode cL_liftException 28 = .ok (.iconst 0, 1) := by decide +kernel
theorem dL_liftException_29 : decode cL_liftException 29 = .ok (.ireturn, 1) := by decide +kernel
theorem dL_liftException_11 : decode cL_liftException 11 = .ok (.lconst 1, 1) := by decide +kernel
theorem dL_liftException_12 : decode cL_liftException 12 = .ok (.goto 4, 3) := by decide +kernel
theorem dL_liftException_20 : decode cL_liftException 20 = .ok (.astore 4, 2) := by decide +kernel
theorem dL_liftException_22 : decode cL_liftException 22 = .ok (.iconst 1, 1) := by decide +kernel
theorem dL_liftException_23 : decode cL_liftException 23 = .ok (.ireturn, 1) := by decide +kernel
theorem u_689 : Cond.classLink RL 33 "java/util/NoSuchElementException" ∈ UW := uw 689 (by decide +kernel) rfl
theorem cst_NoSuchElementException : Cond.castable "java/util/NoSuchElementException" "java/util/NoSuchElementException" ∈ CW := cwm 556 (by decide +kernel) rfl
theorem dL_liftException_24 : decode cL_liftException 24 = .ok (.astore 4, 2) := by decide +kernel
theorem dL_liftException_26 : decode cL_liftException 26 = .ok (.iconst 2, 1) := by decide +kernel
theorem dL_liftException_27 : decode cL_liftException 27 = .ok (.ireturn, 1) := by decide +kernel
def f_L_liftException (q : McV) (v : StV) (hi : HiV) (hs : Nat → StV) (dr : Int32) (dy : Int32) (ow : Nat → Int64) : Int32 × StV × HiV × (Nat → StV) × (Nat → Int64) := (let u_3 : String × Int32 × StV × HiV × (Nat → StV) := (f_X9_liftException q v hi hs dr dy); (if u_3.1 = "" then (if u_3.2.1 = (0 : Int32) then ((0 : Int32), u_3.2.2.1, u_3.2.2.2.1, u_3.2.2.2.2, (vp_updL ow (0 : Int32).toNatClampNeg (0 : Int64))) else ((0 : Int32), u_3.2.2.1, u_3.2.2.2.1, u_3.2.2.2.2, (vp_updL ow (0 : Int32).toNatClampNeg (1 : Int64)))) else (if (f_X9_liftException q v hi hs dr dy).1 = "java/lang/IndexOutOfBoundsException" then ((1 : Int32), v, hi, hs, ow) else (if (f_X9_liftException q v hi hs dr dy).1 = "java/util/NoSuchElementException" then ((2 : Int32), v, hi, hs, ow) else (0, v, hi, hs, ow)))))
def ok_L_liftException (q : McV) (v : StV) (hi : HiV) (hs : Nat → StV) (dr : Int32) (dy : Int32) (ow : Nat → Int64) : Prop := (nx9 hi.2 ∧ (let u_3 : String × Int32 × StV × HiV × (Nat → StV) := (f_X9_liftException q v hi hs dr dy); (if u_3.1 = "" then True else (if (f_X9_liftException q v hi hs dr dy).1 = "java/lang/IndexOutOfBoundsException" then True else (if (f_X9_liftException q v hi hs dr dy).1 = "java/util/NoSuchElementException" then True else False)))))
set_option maxHeartbeats 8000000 in
set_option maxRecDepth 100000 in
set_option linter.constructorNameAsVariable false in
theorem c_L_liftException (l : Launch) (hlf : l.stackTraces = false) (G : GG) (qh0 : Nat) (q_snapshot : Nat) (q_program : Nat) (q_notice : Nat) (va : Nat → Nat) (hih0 : Nat) (hsh : Nat) (hsa : Nat → Nat → Nat) (owh : Nat) (sz : Nat) (q : McV) (v : StV) (hi : HiV) (hs : Nat → StV) (dr : Int32) (dy : Int32) (ow : Nat → Int64) (hok : ok_L_liftException q v hi hs dr dy ow) : wMetH l yL_liftException cL_liftException 5 (some .int) [(0, 17, 20, 21), (0, 17, 24, 33)] 10 1 6 G (fl [[(qh0, .inr (11, [.ref (va 0), .ref q_snapshot, .int q.1, .ref hih0, .ref q_program, .ref q_notice, .int q.2.1, .int q.2.2]))], wSt G va v, [(hih0, .inr (7, [.int hi.1, .int hi.2, .ref hsh]))], wHs G hsh hsa hs, [(owh, .inl (G.2.1 3, 1, .inr (.inl ow)))]]) [.ref qh0, .int dr, .int dy, .ref owh] sz (fun u : Int32 × StV × HiV × (Nat → StV) × (Nat → Int64) => some (.int u.1)) (fun u : Int32 × StV × HiV × (Nat → StV) × (Nat → Int64) => u = f_L_liftException q v hi hs dr dy ow) (fun u : Int32 × StV × HiV × (Nat → StV) × (Nat → Int64) => fl [[(qh0, .inr (11, [.ref (va 0), .ref q_snapshot, .int q.1, .ref hih0, .ref q_program, .ref q_notice, .int q.2.1, .int q.2.2]))], wSt G va u.2.1, [(hih0, .inr (7, [.int u.2.2.1.1, .int u.2.2.1.2, .ref hsh]))], wHs G hsh hsa u.2.2.2.1, [(owh, .inl (G.2.1 3, 1, .inr (.inl u.2.2.2.2)))]]) := by
  refine w_startH (by decide +kernel) (Nat.le_of_ble_eq_true rfl) ?_
  intro p e s m below meth c A hx hb hr hml hts hown hlk hin hxt hP hD hA hK hST ls hl
  have hS : va_S A s.heap s.heap [] := va_S.rf
  have hown : s.vm.findClass RL = some m.cls := hown
  have hl : lv_has ls 5 [(0, .ref qh0), (1, .int dr), (2, .int dy), (3, .ref owh)] := hl
  have hF : f_L_liftException q v hi hs dr dy ow = (let u_3 : String × Int32 × StV × HiV × (Nat → StV) := (f_X9_liftException q v hi hs dr dy); (if u_3.1 = "" then (if u_3.2.1 = (0 : Int32) then ((0 : Int32), u_3.2.2.1, u_3.2.2.2.1, u_3.2.2.2.2, (vp_updL ow (0 : Int32).toNatClampNeg (0 : Int64))) else ((0 : Int32), u_3.2.2.1, u_3.2.2.2.1, u_3.2.2.2.2, (vp_updL ow (0 : Int32).toNatClampNeg (1 : Int64)))) else (if (f_X9_liftException q v hi hs dr dy).1 = "java/lang/IndexOutOfBoundsException" then ((1 : Int32), v, hi, hs, ow) else (if (f_X9_liftException q v hi hs dr dy).1 = "java/util/NoSuchElementException" then ((2 : Int32), v, hi, hs, ow) else (0, v, hi, hs, ow))))) := rfl
  have hok : (nx9 hi.2 ∧ (let u_3 : String × Int32 × StV × HiV × (Nat → StV) := (f_X9_liftException q v hi hs dr dy); (if u_3.1 = "" then True else (if (f_X9_liftException q v hi hs dr dy).1 = "java/lang/IndexOutOfBoundsException" then True else (if (f_X9_liftException q v hi hs dr dy).1 = "java/util/NoSuchElementException" then True else False))))) := hok
  refine lv_aload_n hx hb dL_liftException_0 rfl (lv_at hl 3 rfl) ?_
  refine lv_iconst (v := (0 : Int32)) hx hb dL_liftException_1 (by decide) ?_
  refine lv_aload_n hx hb dL_liftException_2 rfl (lv_at hl 0 rfl) ?_
  refine lv_iload_n hx hb dL_liftException_3 rfl (lv_at hl 1 rfl) ?_
  refine lv_iload_n hx hb dL_liftException_4 rfl (lv_at hl 2 rfl) ?_
  have k_1 := hok.1
  have hok := hok.2
  refine xw_V (own := RL) (cs := [[(qh0, .inr (11, [.ref (va 0), .ref q_snapshot, .int q.1, .ref hih0, .ref q_program, .ref q_notice, .int q.2.1, .int q.2.2]))], wSt G va v, [(hih0, .inr (7, [.int hi.1, .int hi.2, .ref hsh]))], wHs G hsh hsa hs]) (rs := [[(owh, .inl (G.2.1 3, 1, .inr (.inl ow)))]]) (As := [.int dr, .int dy]) (rest := [.int (0 : Int32), .ref owh]) (c_X9_liftExceptionS l hlf G qh0 q_snapshot q_program q_notice va hih0 hsh hsa s.heap.size q v hi hs dr dy k_1) ⟨hx, hb, hml, hown, hts⟩ g_L_29 hdv_X9_liftException hK hST hS hP hD hA [0, 1, 2, 3] [4] rfl rfl rfl (k0 := 0) rfl rfl rfl ⟨Nat.le_of_ble_eq_true rfl, Nat.le_of_ble_eq_true rfl⟩ ⟨Nat.le_of_ble_eq_true rfl, Nat.le_of_ble_eq_true rfl⟩ rfl hl.1 rfl (Nat.le_of_ble_eq_true rfl) dL_liftException_5 (fun E ce q9 H locs hE hP hS h3 h4 h5 => ?_) (fun u_3 H locs huu hP hD hS => ?_)
  rotate_left
  obtain ⟨huu, b_2⟩ := huu
  rw [← huu] at b_2
  have eu_3 := huu
  have hP : va_P G.1 vwCl (fl [[(qh0, .inr (11, [.ref (va 0), .ref q_snapshot, .int q.1, .ref hih0, .ref q_program, .ref q_notice, .int q.2.1, .int q.2.2]))], wSt G va u_3.2.2.1, [(hih0, .inr (7, [.int u_3.2.2.2.1.1, .int u_3.2.2.2.1.2, .ref hsh]))], wHs G hsh hsa u_3.2.2.2.2, [(owh, .inl (G.2.1 3, 1, .inr (.inl ow)))]]) H := hP
  have hD : va_D A (fl [[(qh0, .inr (11, [.ref (va 0), .ref q_snapshot, .int q.1, .ref hih0, .ref q_program, .ref q_notice, .int q.2.1, .int q.2.2]))], wSt G va u_3.2.2.1, [(hih0, .inr (7, [.int u_3.2.2.2.1.1, .int u_3.2.2.2.1.2, .ref hsh]))], wHs G hsh hsa u_3.2.2.2.2, [(owh, .inl (G.2.1 3, 1, .inr (.inl ow)))]]) := hD
  refine W.eq (g2 := F0 m 8 ls [.int u_3.2.1, .int (0 : Int32), .ref owh]) rfl ?_
  have hE := b_2.1
  have hF : f_L_liftException q v hi hs dr dy ow = (if u_3.1 = "" then (if u_3.2.1 = (0 : Int32) then ((0 : Int32), u_3.2.2.1, u_3.2.2.2.1, u_3.2.2.2.2, (vp_updL ow (0 : Int32).toNatClampNeg (0 : Int64))) else ((0 : Int32), u_3.2.2.1, u_3.2.2.2.1, u_3.2.2.2.2, (vp_updL ow (0 : Int32).toNatClampNeg (1 : Int64)))) else (if (f_X9_liftException q v hi hs dr dy).1 = "java/lang/IndexOutOfBoundsException" then ((1 : Int32), v, hi, hs, ow) else (if (f_X9_liftException q v hi hs dr dy).1 = "java/util/NoSuchElementException" then ((2 : Int32), v, hi, hs, ow) else (0, v, hi, hs, ow)))) := by subst eu_3; exact hF
  have hF := hF.trans (if_pos hE)
  have hok : (if u_3.1 = "" then True else (if (f_X9_liftException q v hi hs dr dy).1 = "java/lang/IndexOutOfBoundsException" then True else (if (f_X9_liftException q v hi hs dr dy).1 = "java/util/NoSuchElementException" then True else False))) := by subst eu_3; exact hok
  have hok := Eq.mp (if_pos hE) hok
  refine lv_if_eq (tgt := 15) hx hb dL_liftException_8 (by decide) (fun c_4 => ?_) (fun c_4 => ?_)
  · have hF := hF.trans (if_pos c_4)
    refine lv_lconst (v := (0 : Int64)) hx hb dL_liftException_15 (by decide) ?_
    refine va_last hx hb hK hP hD hS 203 3 rfl rfl (vp_in_nI (n := 0) (by decide) (by decide)) dL_liftException_16 (fun H locs hP hD hS => ?_)
    have hP : va_P G.1 vwCl (fl [[(qh0, .inr (11, [.ref (va 0), .ref q_snapshot, .int q.1, .ref hih0, .ref q_program, .ref q_notice, .int q.2.1, .int q.2.2]))], wSt G va u_3.2.2.1, [(hih0, .inr (7, [.int u_3.2.2.2.1.1, .int u_3.2.2.2.1.2, .ref hsh]))], wHs G hsh hsa u_3.2.2.2.2, [(owh, .inl (G.2.1 3, 1, .inr (.inl (vp_updL ow (0 : Int32).toNatClampNeg (0 : Int64)))))]]) H := hP
    have hD : va_D A (fl [[(qh0, .inr (11, [.ref (va 0), .ref q_snapshot, .int q.1, .ref hih0, .ref q_program, .ref q_notice, .int q.2.1, .int q.2.2]))], wSt G va u_3.2.2.1, [(hih0, .inr (7, [.int u_3.2.2.2.1.1, .int u_3.2.2.2.1.2, .ref hsh]))], wHs G hsh hsa u_3.2.2.2.2, [(owh, .inl (G.2.1 3, 1, .inr (.inl (vp_updL ow (0 : Int32).toNatClampNeg (0 : Int64)))))]]) := hD
    refine lv_goto (tgt := 28) hx hb dL_liftException_17 (by decide) ?_
    refine lv_iconst (v := (0 : Int32)) hx hb dL_liftException_28 (by decide) ?_
    exact w_ret (u := ((0 : Int32), u_3.2.2.1, u_3.2.2.2.1, u_3.2.2.2.2, (vp_updL ow (0 : Int32).toNatClampNeg (0 : Int64)))) hx hb hr hlk rfl hS rfl hF.symm hP hD (Nat.le_of_ble_eq_true rfl) (Nat.le_of_ble_eq_true rfl) dL_liftException_29
  · have hF := hF.trans (if_neg c_4)
    refine lv_lconst (v := (1 : Int64)) hx hb dL_liftException_11 (by decide) ?_
    refine lv_goto (tgt := 16) hx hb dL_liftException_12 (by decide) ?_
    refine va_last hx hb hK hP hD hS 203 3 rfl rfl (vp_in_nI (n := 0) (by decide) (by decide)) dL_liftException_16 (fun H locs hP hD hS => ?_)
    have hP : va_P G.1 vwCl (fl [[(qh0, .inr (11, [.ref (va 0), .ref q_snapshot, .int q.1, .ref hih0, .ref q_program, .ref q_notice, .int q.2.1, .int q.2.2]))], wSt G va u_3.2.2.1, [(hih0, .inr (7, [.int u_3.2.2.2.1.1, .int u_3.2.2.2.1.2, .ref hsh]))], wHs G hsh hsa u_3.2.2.2.2, [(owh, .inl (G.2.1 3, 1, .inr (.inl (vp_updL ow (0 : Int32).toNatClampNeg (1 : Int64)))))]]) H := hP
    have hD : va_D A (fl [[(qh0, .inr (11, [.ref (va 0), .ref q_snapshot, .int q.1, .ref hih0, .ref q_program, .ref q_notice, .int q.2.1, .int q.2.2]))], wSt G va u_3.2.2.1, [(hih0, .inr (7, [.int u_3.2.2.2.1.1, .int u_3.2.2.2.1.2, .ref hsh]))], wHs G hsh hsa u_3.2.2.2.2, [(owh, .inl (G.2.1 3, 1, .inr (.inl (vp_updL ow (0 : Int32).toNatClampNeg (1 : Int64)))))]]) := hD
    refine lv_goto (tgt := 28) hx hb dL_liftException_17 (by decide) ?_
    refine lv_iconst (v := (0 : Int32)) hx hb dL_liftException_28 (by decide) ?_
    exact w_ret (u := ((0 : Int32), u_3.2.2.1, u_3.2.2.2.1, u_3.2.2.2.2, (vp_updL ow (0 : Int32).toNatClampNeg (1 : Int64)))) hx hb hr hlk rfl hS rfl hF.symm hP hD (Nat.le_of_ble_eq_true rfl) (Nat.le_of_ble_eq_true rfl) dL_liftException_29
  have hF := hF.trans (if_neg (fun e => hE.2 (hE.1.trans e)))
  have hok := Eq.mp (if_neg (fun e => hE.2 (hE.1.trans e))) hok
  by_cases c_5 : (f_X9_liftException q v hi hs dr dy).1 = "java/lang/IndexOutOfBoundsException"
  · have hF := hF.trans (if_pos c_5)
    have hok := Eq.mp (if_pos c_5) hok
    have hEE : E = "java/lang/IndexOutOfBoundsException" := hE.1.trans c_5
    subst hEE
    refine vx_catch (own := RL) (name := "java/lang/IndexOutOfBoundsException") hown [] (⟨0, 17, 20, 21⟩ : ExceptionTableEntry) [(⟨0, 17, 24, 33⟩ : ExceptionTableEntry)] (hxt.trans rfl) (fun z hz => nomatch hz) (by decide) (by decide) (hts _ u_608) (va_tabs rfl rfl (hST.2.2.2.2.2.2.2.1 _ cst_IndexOutOfBoundsException)) h3 h4 h5 ?_
    refine W.eq (g2 := F0 m 20 ls [.ref q9]) rfl ?_
    refine lv_astore (lv' := [(4, .ref q9), (0, .ref qh0), (1, .int dr), (2, .int dy), (3, .ref owh)]) hx hb dL_liftException_20 hl (by decide) rfl (fun ls hl => ?_)
    refine lv_iconst (v := (1 : Int32)) hx hb dL_liftException_22 (by decide) ?_
    exact w_ret (u := ((1 : Int32), v, hi, hs, ow)) hx hb hr hlk rfl hS rfl hF.symm hP hD (Nat.le_of_ble_eq_true rfl) (Nat.le_of_ble_eq_true rfl) dL_liftException_23
  · have hF := hF.trans (if_neg c_5)
    have hok := Eq.mp (if_neg c_5) hok
    by_cases c_6 : (f_X9_liftException q v hi hs dr dy).1 = "java/util/NoSuchElementException"
    · have hF := hF.trans (if_pos c_6)
      have hok := Eq.mp (if_pos c_6) hok
      have hEE : E = "java/util/NoSuchElementException" := hE.1.trans c_6
      subst hEE
      refine vx_catch (own := RL) (name := "java/util/NoSuchElementException") hown [(⟨0, 17, 20, 21⟩ : ExceptionTableEntry)] (⟨0, 17, 24, 33⟩ : ExceptionTableEntry) [] (hxt.trans rfl) (List.forall_mem_cons.mpr ⟨Or.inr ⟨by decide, "java/lang/IndexOutOfBoundsException", hts _ u_608, hST.2.2.2.2.2.2.2.2.1 ("java/util/NoSuchElementException", "java/lang/IndexOutOfBoundsException") (by decide +kernel)⟩, fun _ h => nomatch h⟩) (by decide) (by decide) (hts _ u_689) (va_tabs rfl rfl (hST.2.2.2.2.2.2.2.1 _ cst_NoSuchElementException)) h3 h4 h5 ?_
      refine W.eq (g2 := F0 m 24 ls [.ref q9]) rfl ?_
      refine lv_astore (lv' := [(4, .ref q9), (0, .ref qh0), (1, .int dr), (2, .int dy), (3, .ref owh)]) hx hb dL_liftException_24 hl (by decide) rfl (fun ls hl => ?_)
      refine lv_iconst (v := (2 : Int32)) hx hb dL_liftException_26 (by decide) ?_
      exact w_ret (u := ((2 : Int32), v, hi, hs, ow)) hx hb hr hlk rfl hS rfl hF.symm hP hD (Nat.le_of_ble_eq_true rfl) (Nat.le_of_ble_eq_true rfl) dL_liftException_27
    · have hF := hF.trans (if_neg c_6)
      have hok := Eq.mp (if_neg c_6) hok
      exact hok.elim
theorem dL_setCycle_0 : decode cL_setCycle 0 = .ok (.aload_n 2, 1) := by decide +kernel
theorem dL_setCycle_1 : decode cL_setCycle 1 = .ok (.iconst 0, 1) := by decide +kernel
theorem dL_setCycle_2 : decode cL_setCycle 2 = .ok (.aload_n 0, 1) := by decide +kernel
theorem dL_setCycle_3 : decode cL_setCycle 3 = .ok (.iload_n 1, 1) := by decide +kernel
theorem dL_setCycle_4 : decode cL_setCycle 4 = .ok (.invokevirtual 35, 3) := by decide +kernel
theorem u_715 : Cond.methodLink RL 35 yX9_setCycle ∈ UW := uw 715 (by decide +kernel) rfl
theorem u_716 : Cond.instanceMethod yX9_setCycle ∈ UW := uw 716 (by decide +kernel) rfl
theorem u_717 : Cond.selects RX9 yX9_setCycle yX9_setCycle ∈ UW := uw 717 (by decide +kernel) rfl
theorem u_718 : Cond.code yX9_setCycle cX9_setCycle 2 (some .int) ∈ UW := uw 718 (by decide +kernel) rfl
theorem g_L_35 : GoodIn UW (wsV RL 35 RX9 yX9_setCycle (wsU yX9_setCycle cX9_setCycle 2 (some .int))) := gV u_715 u_716 u_717 u_65 u_718
theorem hdv_X9_setCycle : yX9_setCycle.cls = RX9 ∧ yX9_setCycle.cls ≠ "java/lang/invoke/MethodHandle" ∧ yX9_setCycle.cls ≠ "java/lang/invoke/VarHandle" ∧ (parseMethodDescriptor yX9_setCycle.desc).map (fun d => d.parameters.length) = some 1 := by decide +kernel
theorem dL_setCycle_7 : decode cL_setCycle 7 = .ok (.i2l, 1) := by decide +kernel
theorem dL_setCycle_8 : decode cL_setCycle 8 = .ok (.lastore, 1) := by decide +kernel
theorem dL_setCycle_9 : decode cL_setCycle 9 = .ok (.goto 6, 3) := by decide +kernel
theorem dL_setCycle_15 : decode cL_setCycle 15 = .ok (.iconst 0, 1) := by decide +kernel
theorem dL_setCycle_16 : decode cL_setCycle 16 = .ok (.ireturn, 1) := by decide +kernel
theorem dL_setCycle_12 : decode cL_setCycle 12 = .ok (.astore_n 3, 1) := by decide +kernel
theorem dL_setCycle_13 : decode cL_setCycle 13 = .ok (.iconst 1, 1) := by decide +kernel
theorem dL_setCycle_14 : decode cL_setCycle 14 = .ok (.ireturn, 1) := by decide +kernel
def f_L_setCycle (q : McV) (v : StV) (hi : HiV) (hs : Nat → StV) (dy : Int32) (ow : Nat → Int64) : Int32 × StV × HiV × (Nat → StV) × (Nat → Int64) := (let u_3 : String × Int32 × StV × HiV × (Nat → StV) := (f_X9_setCycle q v hi hs dy); (if u_3.1 = "" then ((0 : Int32), u_3.2.2.1, u_3.2.2.2.1, u_3.2.2.2.2, (vp_updL ow (0 : Int32).toNatClampNeg u_3.2.1.toInt64)) else (if (f_X9_setCycle q v hi hs dy).1 = "java/lang/IllegalArgumentException" then ((1 : Int32), v, hi, hs, ow) else (0, v, hi, hs, ow))))
def ok_L_setCycle (q : McV) (v : StV) (hi : HiV) (hs : Nat → StV) (dy : Int32) (ow : Nat → Int64) : Prop := (nx9 hi.2 ∧ (let u_3 : String × Int32 × StV × HiV × (Nat → StV) := (f_X9_setCycle q v hi hs dy); (if u_3.1 = "" then True else (if (f_X9_setCycle q v hi hs dy).1 = "java/lang/IllegalArgumentException" then True else False))))
set_option maxHeartbeats 8000000 in
set_option maxRecDepth 100000 in
set_option linter.constructorNameAsVariable false in
theorem c_L_setCycle (l : Launch) (hlf : l.stackTraces = false) (G : GG) (qh0 : Nat) (q_snapshot : Nat) (q_program : Nat) (q_notice : Nat) (va : Nat → Nat) (hih0 : Nat) (hsh : Nat) (hsa : Nat → Nat → Nat) (owh : Nat) (sz : Nat) (q : McV) (v : StV) (hi : HiV) (hs : Nat → StV) (dy : Int32) (ow : Nat → Int64) (hok : ok_L_setCycle q v hi hs dy ow) : wMetH l yL_setCycle cL_setCycle 4 (some .int) [(0, 9, 12, 13)] 10 1 6 G (fl [[(qh0, .inr (11, [.ref (va 0), .ref q_snapshot, .int q.1, .ref hih0, .ref q_program, .ref q_notice, .int q.2.1, .int q.2.2]))], wSt G va v, [(hih0, .inr (7, [.int hi.1, .int hi.2, .ref hsh]))], wHs G hsh hsa hs, [(owh, .inl (G.2.1 3, 1, .inr (.inl ow)))]]) [.ref qh0, .int dy, .ref owh] sz (fun u : Int32 × StV × HiV × (Nat → StV) × (Nat → Int64) => some (.int u.1)) (fun u : Int32 × StV × HiV × (Nat → StV) × (Nat → Int64) => u = f_L_setCycle q v hi hs dy ow) (fun u : Int32 × StV × HiV × (Nat → StV) × (Nat → Int64) => fl [[(qh0, .inr (11, [.ref (va 0), .ref q_snapshot, .int q.1, .ref hih0, .ref q_program, .ref q_notice, .int q.2.1, .int q.2.2]))], wSt G va u.2.1, [(hih0, .inr (7, [.int u.2.2.1.1, .int u.2.2.1.2, .ref hsh]))], wHs G hsh hsa u.2.2.2.1, [(owh, .inl (G.2.1 3, 1, .inr (.inl u.2.2.2.2)))]]) := by
  refine w_startH (by decide +kernel) (Nat.le_of_ble_eq_true rfl) ?_
  intro p e s m below meth c A hx hb hr hml hts hown hlk hin hxt hP hD hA hK hST ls hl
  have hS : va_S A s.heap s.heap [] := va_S.rf
  have hown : s.vm.findClass RL = some m.cls := hown
  have hl : lv_has ls 4 [(0, .ref qh0), (1, .int dy), (2, .ref owh)] := hl
  have hF : f_L_setCycle q v hi hs dy ow = (let u_3 : String × Int32 × StV × HiV × (Nat → StV) := (f_X9_setCycle q v hi hs dy); (if u_3.1 = "" then ((0 : Int32), u_3.2.2.1, u_3.2.2.2.1, u_3.2.2.2.2, (vp_updL ow (0 : Int32).toNatClampNeg u_3.2.1.toInt64)) else (if (f_X9_setCycle q v hi hs dy).1 = "java/lang/IllegalArgumentException" then ((1 : Int32), v, hi, hs, ow) else (0, v, hi, hs, ow)))) := rfl
  have hok : (nx9 hi.2 ∧ (let u_3 : String × Int32 × StV × HiV × (Nat → StV) := (f_X9_setCycle q v hi hs dy); (if u_3.1 = "" then True else (if (f_X9_setCycle q v hi hs dy).1 = "java/lang/IllegalArgumentException" then True else False)))) := hok
  refine lv_aload_n hx hb dL_setCycle_0 rfl (lv_at hl 2 rfl) ?_
  refine lv_iconst (v := (0 : Int32)) hx hb dL_setCycle_1 (by decide) ?_
  refine lv_aload_n hx hb dL_setCycle_2 rfl (lv_at hl 0 rfl) ?_
  refine lv_iload_n hx hb dL_setCycle_3 rfl (lv_at hl 1 rfl) ?_
  have k_1 := hok.1
  have hok := hok.2
  refine xw_V (own := RL) (cs := [[(qh0, .inr (11, [.ref (va 0), .ref q_snapshot, .int q.1, .ref hih0, .ref q_program, .ref q_notice, .int q.2.1, .int q.2.2]))], wSt G va v, [(hih0, .inr (7, [.int hi.1, .int hi.2, .ref hsh]))], wHs G hsh hsa hs]) (rs := [[(owh, .inl (G.2.1 3, 1, .inr (.inl ow)))]]) (As := [.int dy]) (rest := [.int (0 : Int32), .ref owh]) (c_X9_setCycleS l hlf G qh0 q_snapshot q_program q_notice va hih0 hsh hsa s.heap.size q v hi hs dy k_1) ⟨hx, hb, hml, hown, hts⟩ g_L_35 hdv_X9_setCycle hK hST hS hP hD hA [0, 1, 2, 3] [4] rfl rfl rfl (k0 := 0) rfl rfl rfl ⟨Nat.le_of_ble_eq_true rfl, Nat.le_of_ble_eq_true rfl⟩ ⟨Nat.le_of_ble_eq_true rfl, Nat.le_of_ble_eq_true rfl⟩ rfl hl.1 rfl (Nat.le_of_ble_eq_true rfl) dL_setCycle_4 (fun E ce q9 H locs hE hP hS h3 h4 h5 => ?_) (fun u_3 H locs huu hP hD hS => ?_)
  rotate_left
  obtain ⟨huu, b_2⟩ := huu
  rw [← huu] at b_2
  have eu_3 := huu
  have hP : va_P G.1 vwCl (fl [[(qh0, .inr (11, [.ref (va 0), .ref q_snapshot, .int q.1, .ref hih0, .ref q_program, .ref q_notice, .int q.2.1, .int q.2.2]))], wSt G va u_3.2.2.1, [(hih0, .inr (7, [.int u_3.2.2.2.1.1, .int u_3.2.2.2.1.2, .ref hsh]))], wHs G hsh hsa u_3.2.2.2.2, [(owh, .inl (G.2.1 3, 1, .inr (.inl ow)))]]) H := hP
  have hD : va_D A (fl [[(qh0, .inr (11, [.ref (va 0), .ref q_snapshot, .int q.1, .ref hih0, .ref q_program, .ref q_notice, .int q.2.1, .int q.2.2]))], wSt G va u_3.2.2.1, [(hih0, .inr (7, [.int u_3.2.2.2.1.1, .int u_3.2.2.2.1.2, .ref hsh]))], wHs G hsh hsa u_3.2.2.2.2, [(owh, .inl (G.2.1 3, 1, .inr (.inl ow)))]]) := hD
  refine W.eq (g2 := F0 m 7 ls [.int u_3.2.1, .int (0 : Int32), .ref owh]) rfl ?_
  have hE := b_2.1
  have hF : f_L_setCycle q v hi hs dy ow = (if u_3.1 = "" then ((0 : Int32), u_3.2.2.1, u_3.2.2.2.1, u_3.2.2.2.2, (vp_updL ow (0 : Int32).toNatClampNeg u_3.2.1.toInt64)) else (if (f_X9_setCycle q v hi hs dy).1 = "java/lang/IllegalArgumentException" then ((1 : Int32), v, hi, hs, ow) else (0, v, hi, hs, ow))) := by subst eu_3; exact hF
  have hF := hF.trans (if_pos hE)
  have hok : (if u_3.1 = "" then True else (if (f_X9_setCycle q v hi hs dy).1 = "java/lang/IllegalArgumentException" then True else False)) := by subst eu_3; exact hok
  have hok := Eq.mp (if_pos hE) hok
  refine lv_i2l hx hb dL_setCycle_7 rfl ?_
  refine va_last hx hb hK hP hD hS 203 3 rfl rfl (vp_in_nI (n := 0) (by decide) (by decide)) dL_setCycle_8 (fun H locs hP hD hS => ?_)
  have hP : va_P G.1 vwCl (fl [[(qh0, .inr (11, [.ref (va 0), .ref q_snapshot, .int q.1, .ref hih0, .ref q_program, .ref q_notice, .int q.2.1, .int q.2.2]))], wSt G va u_3.2.2.1, [(hih0, .inr (7, [.int u_3.2.2.2.1.1, .int u_3.2.2.2.1.2, .ref hsh]))], wHs G hsh hsa u_3.2.2.2.2, [(owh, .inl (G.2.1 3, 1, .inr (.inl (vp_updL ow (0 : Int32).toNatClampNeg u_3.2.1.toInt64))))]]) H := hP
  have hD : va_D A (fl [[(qh0, .inr (11, [.ref (va 0), .ref q_snapshot, .int q.1, .ref hih0, .ref q_program, .ref q_notice, .int q.2.1, .int q.2.2]))], wSt G va u_3.2.2.1, [(hih0, .inr (7, [.int u_3.2.2.2.1.1, .int u_3.2.2.2.1.2, .ref hsh]))], wHs G hsh hsa u_3.2.2.2.2, [(owh, .inl (G.2.1 3, 1, .inr (.inl (vp_updL ow (0 : Int32).toNatClampNeg u_3.2.1.toInt64))))]]) := hD
  refine lv_goto (tgt := 15) hx hb dL_setCycle_9 (by decide) ?_
  refine lv_iconst (v := (0 : Int32)) hx hb dL_setCycle_15 (by decide) ?_
  exact w_ret (u := ((0 : Int32), u_3.2.2.1, u_3.2.2.2.1, u_3.2.2.2.2, (vp_updL ow (0 : Int32).toNatClampNeg u_3.2.1.toInt64))) hx hb hr hlk rfl hS rfl hF.symm hP hD (Nat.le_of_ble_eq_true rfl) (Nat.le_of_ble_eq_true rfl) dL_setCycle_16
  have hF := hF.trans (if_neg (fun e => hE.2 (hE.1.trans e)))
  have hok := Eq.mp (if_neg (fun e => hE.2 (hE.1.trans e))) hok
  by_cases c_4 : (f_X9_setCycle q v hi hs dy).1 = "java/lang/IllegalArgumentException"
  · have hF := hF.trans (if_pos c_4)
    have hok := Eq.mp (if_pos c_4) hok
    have hEE : E = "java/lang/IllegalArgumentException" := hE.1.trans c_4
    subst hEE
    refine vx_catch (own := RL) (name := "java/lang/IllegalArgumentException") hown [] (⟨0, 9, 12, 13⟩ : ExceptionTableEntry) [] (hxt.trans rfl) (fun z hz => nomatch hz) (by decide) (by decide) (hts _ u_403) (va_tabs rfl rfl (hST.2.2.2.2.2.2.2.1 _ cst_IllegalArgumentException)) h3 h4 h5 ?_
    refine W.eq (g2 := F0 m 12 ls [.ref q9]) rfl ?_
    refine lv_astore_n (lv' := [(3, .ref q9), (0, .ref qh0), (1, .int dy), (2, .ref owh)]) hx hb dL_setCycle_12 rfl hl (by decide) rfl (fun ls hl => ?_)
    refine lv_iconst (v := (1 : Int32)) hx hb dL_setCycle_13 (by decide) ?_
    exact w_ret (u := ((1 : Int32), v, hi, hs, ow)) hx hb hr hlk rfl hS rfl hF.symm hP hD (Nat.le_of_ble_eq_true rfl) (Nat.le_of_ble_eq_true rfl) dL_setCycle_14
  · have hF := hF.trans (if_neg c_4)
    have hok := Eq.mp (if_neg c_4) hok
    exact hok.elim
theorem dL_phasesOf_0 : decode cL_phasesOf 0 = .ok (.aload_n 2, 1) := by decide +kernel
theorem dL_phasesOf_1 : decode cL_phasesOf 1 = .ok (.iconst 0, 1) := by decide +kernel
theorem dL_phasesOf_2 : decode cL_phasesOf 2 = .ok (.aload_n 0, 1) := by decide +kernel
theorem dL_phasesOf_3 : decode cL_phasesOf 3 = .ok (.iload_n 1, 1) := by decide +kernel
theorem dL_phasesOf_4 : decode cL_phasesOf 4 = .ok (.invokevirtual 39, 3) := by decide +kernel
theorem u_729 : Cond.methodLink RL 39 yX9_phasesOf ∈ UW := uw 729 (by decide +kernel) rfl
theorem u_730 : Cond.instanceMethod yX9_phasesOf ∈ UW := uw 730 (by decide +kernel) rfl
theorem u_731 : Cond.selects RX9 yX9_phasesOf yX9_phasesOf ∈ UW := uw 731 (by decide +kernel) rfl
theorem u_732 : Cond.code yX9_phasesOf cX9_phasesOf 2 (some .int) ∈ UW := uw 732 (by decide +kernel) rfl
theorem g_L_39 : GoodIn UW (wsV RL 39 RX9 yX9_phasesOf (wsU yX9_phasesOf cX9_phasesOf 2 (some .int))) := gV u_729 u_730 u_731 u_65 u_732
theorem hdv_X9_phasesOf : yX9_phasesOf.cls = RX9 ∧ yX9_phasesOf.cls ≠ "java/lang/invoke/MethodHandle" ∧ yX9_phasesOf.cls ≠ "java/lang/invoke/VarHandle" ∧ (parseMethodDescriptor yX9_phasesOf.desc).map (fun d => d.parameters.length) = some 1 := by decide +kernel
theorem dL_phasesOf_12 : decode cL_phasesOf 12 = .ok (.astore_n 3, 1) := by decide +kernel
theorem dL_phasesOf_13 : decode cL_phasesOf 13 = .ok (.iconst 1, 1) := by decide +kernel
theorem dL_phasesOf_14 : decode cL_phasesOf 14 = .ok (.ireturn, 1) := by decide +kernel
theorem dL_phasesOf_7 : decode cL_phasesOf 7 = .ok (.i2l, 1) := by decide +kernel
theorem dL_phasesOf_8 : decode cL_phasesOf 8 = .ok (.lastore, 1) := by decide +kernel
theorem dL_phasesOf_9 : decode cL_phasesOf 9 = .ok (.goto 6, 3) := by decide +kernel
theorem dL_phasesOf_15 : decode cL_phasesOf 15 = .ok (.iconst 0, 1) := by decide +kernel
theorem dL_phasesOf_16 : decode cL_phasesOf 16 = .ok (.ireturn, 1) := by decide +kernel
def f_L_phasesOf (q : McV) (v : StV) (x : Int32) (ow : Nat → Int64) : Int32 × (Nat → Int64) := (if (f_X9_phasesOf q v x).1 = "" then ((0 : Int32), (vp_updL ow (0 : Int32).toNatClampNeg (((f_X9_phasesOf q v x).2).toInt64))) else (if (f_X9_phasesOf q v x).1 = "java/lang/IndexOutOfBoundsException" then ((1 : Int32), ow) else (0, ow)))
def ok_L_phasesOf (q : McV) (v : StV) (x : Int32) (ow : Nat → Int64) : Prop := (if (f_X9_phasesOf q v x).1 = "" then True else (if (f_X9_phasesOf q v x).1 = "java/lang/IndexOutOfBoundsException" then True else False))
set_option maxHeartbeats 8000000 in
set_option maxRecDepth 100000 in
set_option linter.constructorNameAsVariable false in
theorem c_L_phasesOf (l : Launch) (hlf : l.stackTraces = false) (G : GG) (qh0 : Nat) (q_snapshot : Nat) (q_history : Nat) (q_program : Nat) (q_notice : Nat) (va : Nat → Nat) (owh : Nat) (sz : Nat) (q : McV) (v : StV) (x : Int32) (ow : Nat → Int64) (hok : ok_L_phasesOf q v x ow) : wMetH l yL_phasesOf cL_phasesOf 4 (some .int) [(0, 9, 12, 21)] 10 1 6 G (fl [[(qh0, .inr (11, [.ref (va 0), .ref q_snapshot, .int q.1, .ref q_history, .ref q_program, .ref q_notice, .int q.2.1, .int q.2.2]))], wSt G va v, [(owh, .inl (G.2.1 3, 1, .inr (.inl ow)))]]) [.ref qh0, .int x, .ref owh] sz (fun u : Int32 × (Nat → Int64) => some (.int u.1)) (fun u : Int32 × (Nat → Int64) => u = f_L_phasesOf q v x ow) (fun u : Int32 × (Nat → Int64) => fl [[(qh0, .inr (11, [.ref (va 0), .ref q_snapshot, .int q.1, .ref q_history, .ref q_program, .ref q_notice, .int q.2.1, .int q.2.2]))], wSt G va v, [(owh, .inl (G.2.1 3, 1, .inr (.inl u.2)))]]) := by
  refine w_startH (by decide +kernel) (Nat.le_of_ble_eq_true rfl) ?_
  intro p e s m below meth c A hx hb hr hml hts hown hlk hin hxt hP hD hA hK hST ls hl
  have hS : va_S A s.heap s.heap [] := va_S.rf
  have hown : s.vm.findClass RL = some m.cls := hown
  have hl : lv_has ls 4 [(0, .ref qh0), (1, .int x), (2, .ref owh)] := hl
  have hF : f_L_phasesOf q v x ow = (if (f_X9_phasesOf q v x).1 = "" then ((0 : Int32), (vp_updL ow (0 : Int32).toNatClampNeg (((f_X9_phasesOf q v x).2).toInt64))) else (if (f_X9_phasesOf q v x).1 = "java/lang/IndexOutOfBoundsException" then ((1 : Int32), ow) else (0, ow))) := rfl
  have hok : (if (f_X9_phasesOf q v x).1 = "" then True else (if (f_X9_phasesOf q v x).1 = "java/lang/IndexOutOfBoundsException" then True else False)) := hok
  refine lv_aload_n hx hb dL_phasesOf_0 rfl (lv_at hl 2 rfl) ?_
  refine lv_iconst (v := (0 : Int32)) hx hb dL_phasesOf_1 (by decide) ?_
  refine lv_aload_n hx hb dL_phasesOf_2 rfl (lv_at hl 0 rfl) ?_
  refine lv_iload_n hx hb dL_phasesOf_3 rfl (lv_at hl 1 rfl) ?_
  refine xr_V (own := RL) (v := (some (.int ((f_X9_phasesOf q v x).2)))) (st1 := [.int ((f_X9_phasesOf q v x).2), .int (0 : Int32), .ref owh]) (As := [.int x]) (rest := [.int (0 : Int32), .ref owh]) (c_X9_phasesOfS l hlf G qh0 q_snapshot q_history q_program q_notice va q v x) ⟨hx, hb, hml, hown, hts⟩ g_L_39 hdv_X9_phasesOf hK hST hS hP [0, 1, 2, 3, 4, 5, 6, 7, 8, 9, 10, 11, 12, 13, 14, 15, 16, 17, 18, 19, 20] rfl (k0 := 0) rfl rfl rfl ⟨Nat.le_of_ble_eq_true rfl, Nat.le_of_ble_eq_true rfl⟩ ⟨Nat.le_of_ble_eq_true rfl, Nat.le_of_ble_eq_true rfl⟩ rfl hl.1 rfl (Nat.le_of_ble_eq_true rfl) dL_phasesOf_4 rfl (fun E ce q9 H hE h1 h2 h3 h4 h5 => ?_) (fun b_1 => ?_)
  · have hF := hF.trans (if_neg (fun e => hE.2 (hE.1.trans e)))
    have hok := Eq.mp (if_neg (fun e => hE.2 (hE.1.trans e))) hok
    have hP := hP.kept (fun k q hk => h2 q.1 ((hP k q hk).lt))
    have hS : va_S A s.heap H _ := ⟨Nat.le_trans hS.1 h1, fun q hq hA => (h2 q (Nat.lt_of_lt_of_le hq hS.1)).trans (hS.2.1 q hq hA), hS.2.2⟩
    by_cases c_2 : (f_X9_phasesOf q v x).1 = "java/lang/IndexOutOfBoundsException"
    · have hF := hF.trans (if_pos c_2)
      have hok := Eq.mp (if_pos c_2) hok
      have hEE : E = "java/lang/IndexOutOfBoundsException" := hE.1.trans c_2
      subst hEE
      refine vx_catch (own := RL) (name := "java/lang/IndexOutOfBoundsException") hown [] (⟨0, 9, 12, 21⟩ : ExceptionTableEntry) [] (hxt.trans rfl) (fun z hz => nomatch hz) (by decide) (by decide) (hts _ u_608) (va_tabs rfl rfl (hST.2.2.2.2.2.2.2.1 _ cst_IndexOutOfBoundsException)) h3 h4 h5 ?_
      refine W.eq (g2 := F0 m 12 ls [.ref q9]) rfl ?_
      refine lv_astore_n (lv' := [(3, .ref q9), (0, .ref qh0), (1, .int x), (2, .ref owh)]) hx hb dL_phasesOf_12 rfl hl (by decide) rfl (fun ls hl => ?_)
      refine lv_iconst (v := (1 : Int32)) hx hb dL_phasesOf_13 (by decide) ?_
      exact w_ret (u := ((1 : Int32), ow)) hx hb hr hlk rfl hS rfl hF.symm hP hD (Nat.le_of_ble_eq_true rfl) (Nat.le_of_ble_eq_true rfl) dL_phasesOf_14
    · have hF := hF.trans (if_neg c_2)
      have hok := Eq.mp (if_neg c_2) hok
      exact hok.elim
  · have hE := b_1.1
    have b_1 := b_1.2
    have hF := hF.trans (if_pos hE)
    have hok := Eq.mp (if_pos hE) hok
    refine lv_i2l hx hb dL_phasesOf_7 rfl ?_
    refine va_last hx hb hK hP hD hS 21 3 rfl rfl (vp_in_nI (n := 0) (by decide) (by decide)) dL_phasesOf_8 (fun H locs hP hD hS => ?_)
    have hP : va_P G.1 vwCl (fl [[(qh0, .inr (11, [.ref (va 0), .ref q_snapshot, .int q.1, .ref q_history, .ref q_program, .ref q_notice, .int q.2.1, .int q.2.2]))], wSt G va v, [(owh, .inl (G.2.1 3, 1, .inr (.inl (vp_updL ow (0 : Int32).toNatClampNeg (((f_X9_phasesOf q v x).2).toInt64)))))]]) H := hP
    have hD : va_D A (fl [[(qh0, .inr (11, [.ref (va 0), .ref q_snapshot, .int q.1, .ref q_history, .ref q_program, .ref q_notice, .int q.2.1, .int q.2.2]))], wSt G va v, [(owh, .inl (G.2.1 3, 1, .inr (.inl (vp_updL ow (0 : Int32).toNatClampNeg (((f_X9_phasesOf q v x).2).toInt64)))))]]) := hD
    refine lv_goto (tgt := 15) hx hb dL_phasesOf_9 (by decide) ?_
    refine lv_iconst (v := (0 : Int32)) hx hb dL_phasesOf_15 (by decide) ?_
    exact w_ret (u := ((0 : Int32), (vp_updL ow (0 : Int32).toNatClampNeg (((f_X9_phasesOf q v x).2).toInt64)))) hx hb hr hlk rfl hS rfl hF.symm hP hD (Nat.le_of_ble_eq_true rfl) (Nat.le_of_ble_eq_true rfl) dL_phasesOf_16
theorem dL_keyOf_0 : decode cL_keyOf 0 = .ok (.aload_n 2, 1) := by decide +kernel
theorem dL_keyOf_1 : decode cL_keyOf 1 = .ok (.iconst 0, 1) := by decide +kernel
theorem dL_keyOf_2 : decode cL_keyOf 2 = .ok (.aload_n 0, 1) := by decide +kernel
theorem dL_keyOf_3 : decode cL_keyOf 3 = .ok (.iload_n 1, 1) := by decide +kernel
theorem dL_keyOf_4 : decode cL_keyOf 4 = .ok (.invokevirtual 42, 3) := by decide +kernel
theorem u_740 : Cond.methodLink RL 42 yX9_keyOf ∈ UW := uw 740 (by decide +kernel) rfl
theorem u_741 : Cond.instanceMethod yX9_keyOf ∈ UW := uw 741 (by decide +kernel) rfl
theorem u_742 : Cond.selects RX9 yX9_keyOf yX9_keyOf ∈ UW := uw 742 (by decide +kernel) rfl
theorem u_743 : Cond.code yX9_keyOf cX9_keyOf 2 (some .int) ∈ UW := uw 743 (by decide +kernel) rfl
theorem g_L_42 : GoodIn UW (wsV RL 42 RX9 yX9_keyOf (wsU yX9_keyOf cX9_keyOf 2 (some .int))) := gV u_740 u_741 u_742 u_65 u_743
theorem hdv_X9_keyOf : yX9_keyOf.cls = RX9 ∧ yX9_keyOf.cls ≠ "java/lang/invoke/MethodHandle" ∧ yX9_keyOf.cls ≠ "java/lang/invoke/VarHandle" ∧ (parseMethodDescriptor yX9_keyOf.desc).map (fun d => d.parameters.length) = some 1 := by decide +kernel
theorem dL_keyOf_12 : decode cL_keyOf 12 = .ok (.astore_n 3, 1) := by decide +kernel
theorem dL_keyOf_13 : decode cL_keyOf 13 = .ok (.iconst 1, 1) := by decide +kernel
theorem dL_keyOf_14 : decode cL_keyOf 14 = .ok (.ireturn, 1) := by decide +kernel
theorem dL_keyOf_7 : decode cL_keyOf 7 = .ok (.i2l, 1) := by decide +kernel
theorem dL_keyOf_8 : decode cL_keyOf 8 = .ok (.lastore, 1) := by decide +kernel
theorem dL_keyOf_9 : decode cL_keyOf 9 = .ok (.goto 6, 3) := by decide +kernel
theorem dL_keyOf_15 : decode cL_keyOf 15 = .ok (.iconst 0, 1) := by decide +kernel
theorem dL_keyOf_16 : decode cL_keyOf 16 = .ok (.ireturn, 1) := by decide +kernel
def f_L_keyOf (q : McV) (v : StV) (x : Int32) (ow : Nat → Int64) : Int32 × (Nat → Int64) := (if (f_X9_keyOf q v x).1 = "" then ((0 : Int32), (vp_updL ow (0 : Int32).toNatClampNeg (((f_X9_keyOf q v x).2).toInt64))) else (if (f_X9_keyOf q v x).1 = "java/lang/IndexOutOfBoundsException" then ((1 : Int32), ow) else (0, ow)))
def ok_L_keyOf (q : McV) (v : StV) (x : Int32) (ow : Nat → Int64) : Prop := (if (f_X9_keyOf q v x).1 = "" then True else (if (f_X9_keyOf q v x).1 = "java/lang/IndexOutOfBoundsException" then True else False))
set_option maxHeartbeats 8000000 in
set_option maxRecDepth 100000 in
set_option linter.constructorNameAsVariable false in
theorem c_L_keyOf (l : Launch) (hlf : l.stackTraces = false) (G : GG) (qh0 : Nat) (q_snapshot : Nat) (q_history : Nat) (q_program : Nat) (q_notice : Nat) (va : Nat → Nat) (owh : Nat) (sz : Nat) (q : McV) (v : StV) (x : Int32) (ow : Nat → Int64) (hok : ok_L_keyOf q v x ow) : wMetH l yL_keyOf cL_keyOf 4 (some .int) [(0, 9, 12, 21)] 10 1 6 G (fl [[(qh0, .inr (11, [.ref (va 0), .ref q_snapshot, .int q.1, .ref q_history, .ref q_program, .ref q_notice, .int q.2.1, .int q.2.2]))], wSt G va v, [(owh, .inl (G.2.1 3, 1, .inr (.inl ow)))]]) [.ref qh0, .int x, .ref owh] sz (fun u : Int32 × (Nat → Int64) => some (.int u.1)) (fun u : Int32 × (Nat → Int64) => u = f_L_keyOf q v x ow) (fun u : Int32 × (Nat → Int64) => fl [[(qh0, .inr (11, [.ref (va 0), .ref q_snapshot, .int q.1, .ref q_history, .ref q_program, .ref q_notice, .int q.2.1, .int q.2.2]))], wSt G va v, [(owh, .inl (G.2.1 3, 1, .inr (.inl u.2)))]]) := by
  refine w_startH (by decide +kernel) (Nat.le_of_ble_eq_true rfl) ?_
  intro p e s m below meth c A hx hb hr hml hts hown hlk hin hxt hP hD hA hK hST ls hl
  have hS : va_S A s.heap s.heap [] := va_S.rf
  have hown : s.vm.findClass RL = some m.cls := hown
  have hl : lv_has ls 4 [(0, .ref qh0), (1, .int x), (2, .ref owh)] := hl
  have hF : f_L_keyOf q v x ow = (if (f_X9_keyOf q v x).1 = "" then ((0 : Int32), (vp_updL ow (0 : Int32).toNatClampNeg (((f_X9_keyOf q v x).2).toInt64))) else (if (f_X9_keyOf q v x).1 = "java/lang/IndexOutOfBoundsException" then ((1 : Int32), ow) else (0, ow))) := rfl
  have hok : (if (f_X9_keyOf q v x).1 = "" then True else (if (f_X9_keyOf q v x).1 = "java/lang/IndexOutOfBoundsException" then True else False)) := hok
  refine lv_aload_n hx hb dL_keyOf_0 rfl (lv_at hl 2 rfl) ?_
  refine lv_iconst (v := (0 : Int32)) hx hb dL_keyOf_1 (by decide) ?_
  refine lv_aload_n hx hb dL_keyOf_2 rfl (lv_at hl 0 rfl) ?_
  refine lv_iload_n hx hb dL_keyOf_3 rfl (lv_at hl 1 rfl) ?_
  refine xr_V (own := RL) (v := (some (.int ((f_X9_keyOf q v x).2)))) (st1 := [.int ((f_X9_keyOf q v x).2), .int (0 : Int32), .ref owh]) (As := [.int x]) (rest := [.int (0 : Int32), .ref owh]) (c_X9_keyOfS l hlf G qh0 q_snapshot q_history q_program q_notice va q v x) ⟨hx, hb, hml, hown, hts⟩ g_L_42 hdv_X9_keyOf hK hST hS hP [0, 1, 2, 3, 4, 5, 6, 7, 8, 9, 10, 11, 12, 13, 14, 15, 16, 17, 18, 19, 20] rfl (k0 := 0) rfl rfl rfl ⟨Nat.le_of_ble_eq_true rfl, Nat.le_of_ble_eq_true rfl⟩ ⟨Nat.le_of_ble_eq_true rfl, Nat.le_of_ble_eq_true rfl⟩ rfl hl.1 rfl (Nat.le_of_ble_eq_true rfl) dL_keyOf_4 rfl (fun E ce q9 H hE h1 h2 h3 h4 h5 => ?_) (fun b_1 => ?_)
  · have hF := hF.trans (if_neg (fun e => hE.2 (hE.1.trans e)))
    have hok := Eq.mp (if_neg (fun e => hE.2 (hE.1.trans e))) hok
    have hP := hP.kept (fun k q hk => h2 q.1 ((hP k q hk).lt))
    have hS : va_S A s.heap H _ := ⟨Nat.le_trans hS.1 h1, fun q hq hA => (h2 q (Nat.lt_of_lt_of_le hq hS.1)).trans (hS.2.1 q hq hA), hS.2.2⟩
    by_cases c_2 : (f_X9_keyOf q v x).1 = "java/lang/IndexOutOfBoundsException"
    · have hF := hF.trans (if_pos c_2)
      have hok := Eq.mp (if_pos c_2) hok
      have hEE : E = "java/lang/IndexOutOfBoundsException" := hE.1.trans c_2
      subst hEE
      refine vx_catch (own := RL) (name := "java/lang/IndexOutOfBoundsException") hown [] (⟨0, 9, 12, 21⟩ : ExceptionTableEntry) [] (hxt.trans rfl) (fun z hz => nomatch hz) (by decide) (by decide) (hts _ u_608) (va_tabs rfl rfl (hST.2.2.2.2.2.2.2.1 _ cst_IndexOutOfBoundsException)) h3 h4 h5 ?_
      refine W.eq (g2 := F0 m 12 ls [.ref q9]) rfl ?_
      refine lv_astore_n (lv' := [(3, .ref q9), (0, .ref qh0), (1, .int x), (2, .ref owh)]) hx hb dL_keyOf_12 rfl hl (by decide) rfl (fun ls hl => ?_)
      refine lv_iconst (v := (1 : Int32)) hx hb dL_keyOf_13 (by decide) ?_
      exact w_ret (u := ((1 : Int32), ow)) hx hb hr hlk rfl hS rfl hF.symm hP hD (Nat.le_of_ble_eq_true rfl) (Nat.le_of_ble_eq_true rfl) dL_keyOf_14
    · have hF := hF.trans (if_neg c_2)
      have hok := Eq.mp (if_neg c_2) hok
      exact hok.elim
  · have hE := b_1.1
    have b_1 := b_1.2
    have hF := hF.trans (if_pos hE)
    have hok := Eq.mp (if_pos hE) hok
    refine lv_i2l hx hb dL_keyOf_7 rfl ?_
    refine va_last hx hb hK hP hD hS 21 3 rfl rfl (vp_in_nI (n := 0) (by decide) (by decide)) dL_keyOf_8 (fun H locs hP hD hS => ?_)
    have hP : va_P G.1 vwCl (fl [[(qh0, .inr (11, [.ref (va 0), .ref q_snapshot, .int q.1, .ref q_history, .ref q_program, .ref q_notice, .int q.2.1, .int q.2.2]))], wSt G va v, [(owh, .inl (G.2.1 3, 1, .inr (.inl (vp_updL ow (0 : Int32).toNatClampNeg (((f_X9_keyOf q v x).2).toInt64)))))]]) H := hP
    have hD : va_D A (fl [[(qh0, .inr (11, [.ref (va 0), .ref q_snapshot, .int q.1, .ref q_history, .ref q_program, .ref q_notice, .int q.2.1, .int q.2.2]))], wSt G va v, [(owh, .inl (G.2.1 3, 1, .inr (.inl (vp_updL ow (0 : Int32).toNatClampNeg (((f_X9_keyOf q v x).2).toInt64)))))]]) := hD
    refine lv_goto (tgt := 15) hx hb dL_keyOf_9 (by decide) ?_
    refine lv_iconst (v := (0 : Int32)) hx hb dL_keyOf_15 (by decide) ?_
    exact w_ret (u := ((0 : Int32), (vp_updL ow (0 : Int32).toNatClampNeg (((f_X9_keyOf q v x).2).toInt64)))) hx hb hr hlk rfl hS rfl hF.symm hP hD (Nat.le_of_ble_eq_true rfl) (Nat.le_of_ble_eq_true rfl) dL_keyOf_16
theorem dL_isHourOf_0 : decode cL_isHourOf 0 = .ok (.aload_n 3, 1) := by decide +kernel
theorem dL_isHourOf_1 : decode cL_isHourOf 1 = .ok (.iconst 0, 1) := by decide +kernel
theorem dL_isHourOf_2 : decode cL_isHourOf 2 = .ok (.aload_n 0, 1) := by decide +kernel
theorem dL_isHourOf_3 : decode cL_isHourOf 3 = .ok (.iload_n 1, 1) := by decide +kernel
theorem dL_isHourOf_4 : decode cL_isHourOf 4 = .ok (.iload_n 2, 1) := by decide +kernel
theorem dL_isHourOf_5 : decode cL_isHourOf 5 = .ok (.invokevirtual 45, 3) := by decide +kernel
theorem u_747 : Cond.methodLink RL 45 yX9_isHourOf ∈ UW := uw 747 (by decide +kernel) rfl
theorem u_748 : Cond.instanceMethod yX9_isHourOf ∈ UW := uw 748 (by decide +kernel) rfl
theorem u_749 : Cond.selects RX9 yX9_isHourOf yX9_isHourOf ∈ UW := uw 749 (by decide +kernel) rfl
theorem u_750 : Cond.code yX9_isHourOf cX9_isHourOf 3 (some .boolean) ∈ UW := uw 750 (by decide +kernel) rfl
theorem g_L_45 : GoodIn UW (wsV RL 45 RX9 yX9_isHourOf (wsU yX9_isHourOf cX9_isHourOf 3 (some .boolean))) := gV u_747 u_748 u_749 u_65 u_750
theorem hdv_X9_isHourOf : yX9_isHourOf.cls = RX9 ∧ yX9_isHourOf.cls ≠ "java/lang/invoke/MethodHandle" ∧ yX9_isHourOf.cls ≠ "java/lang/invoke/VarHandle" ∧ (parseMethodDescriptor yX9_isHourOf.desc).map (fun d => d.parameters.length) = some 2 := by decide +kernel
theorem dL_isHourOf_20 : decode cL_isHourOf 20 = .ok (.astore 4, 2) := by decide +kernel
theorem dL_isHourOf_22 : decode cL_isHourOf 22 = .ok (.iconst 1, 1) := by decide +kernel
theorem dL_isHourOf_23 : decode cL_isHourOf 23 = .ok (.ireturn, 1) := by decide +kernel
theorem dL_isHourOf_24 : decode cL_isHourOf 24 = .ok (.astore 4, 2) := by decide +kernel
theorem dL_isHourOf_26 : decode cL_isHourOf 26 = .ok (.iconst 2, 1) := by decide +kernel
theorem dL_isHourOf_27 : decode cL_isHourOf 27 = .ok (.ireturn, 1) := by decide +kernel
theorem dL_isHourOf_8 : decode cL_isHourOf 8 = .ok (.ifCond .eq 7, 3) := by decide +kernel
theorem dL_isHourOf_15 : decode cL_isHourOf 15 = .ok (.lconst 0, 1) := by decide +kernel
theorem dL_isHourOf_16 : decode cL_isHourOf 16 = .ok (.lastore, 1) := by decide +kernel
theorem dL_isHourOf_17 : decode cL_isHourOf 17 = .ok (.goto 11, 3) := by decide +kernel
theorem dL_isHourOf_28 : decode cL_isHourOf 28 = .ok (.iconst 0, 1) := by decide +kernel
theorem dL_isHourOf_29 : decode cL_isHourOf 29 = .ok (.ireturn, 1) := by decide +kernel
theorem dL_isHourOf_11 : decode cL_isHourOf 11 = .ok (.lconst 1, 1) := by decide +kernel
theorem dL_isHourOf_12 : decode cL_isHourOf 12 = .ok (.goto 4, 3) := by decide +kernel
def f_L_isHourOf (q : McV) (v : StV) (x : Int32) (y : Int32) (ow : Nat → Int64) : Int32 × (Nat → Int64) := (if (f_X9_isHourOf q v x y).1 = "" then (if (f_X9_isHourOf q v x y).2 = (0 : Int32) then ((0 : Int32), (vp_updL ow (0 : Int32).toNatClampNeg (0 : Int64))) else ((0 : Int32), (vp_updL ow (0 : Int32).toNatClampNeg (1 : Int64)))) else (if (f_X9_isHourOf q v x y).1 = "java/lang/IndexOutOfBoundsException" then ((1 : Int32), ow) else (if (f_X9_isHourOf q v x y).1 = "java/lang/IllegalArgumentException" then ((2 : Int32), ow) else (0, ow))))
def ok_L_isHourOf (q : McV) (v : StV) (x : Int32) (y : Int32) (ow : Nat → Int64) : Prop := (if (f_X9_isHourOf q v x y).1 = "" then True else (if (f_X9_isHourOf q v x y).1 = "java/lang/IndexOutOfBoundsException" then True else (if (f_X9_isHourOf q v x y).1 = "java/lang/IllegalArgumentException" then True else False)))
set_option maxHeartbeats 8000000 in
set_option maxRecDepth 100000 in
set_option linter.constructorNameAsVariable false in
theorem c_L_isHourOf (l : Launch) (hlf : l.stackTraces = false) (G : GG) (qh0 : Nat) (q_snapshot : Nat) (q_history : Nat) (q_program : Nat) (q_notice : Nat) (va : Nat → Nat) (owh : Nat) (sz : Nat) (q : McV) (v : StV) (x : Int32) (y : Int32) (ow : Nat → Int64) (hok : ok_L_isHourOf q v x y ow) : wMetH l yL_isHourOf cL_isHourOf 5 (some .int) [(0, 17, 20, 21), (0, 17, 24, 13)] 10 2 12 G (fl [[(qh0, .inr (11, [.ref (va 0), .ref q_snapshot, .int q.1, .ref q_history, .ref q_program, .ref q_notice, .int q.2.1, .int q.2.2]))], wSt G va v, [(owh, .inl (G.2.1 3, 1, .inr (.inl ow)))]]) [.ref qh0, .int x, .int y, .ref owh] sz (fun u : Int32 × (Nat → Int64) => some (.int u.1)) (fun u : Int32 × (Nat → Int64) => u = f_L_isHourOf q v x y ow) (fun u : Int32 × (Nat → Int64) => fl [[(qh0, .inr (11, [.ref (va 0), .ref q_snapshot, .int q.1, .ref q_history, .ref q_program, .ref q_notice, .int q.2.1, .int q.2.2]))], wSt G va v, [(owh, .inl (G.2.1 3, 1, .inr (.inl u.2)))]]) := by
  refine w_startH (by decide +kernel) (Nat.le_of_ble_eq_true rfl) ?_
  intro p e s m below meth c A hx hb hr hml hts hown hlk hin hxt hP hD hA hK hST ls hl
  have hS : va_S A s.heap s.heap [] := va_S.rf
  have hown : s.vm.findClass RL = some m.cls := hown
  have hl : lv_has ls 5 [(0, .ref qh0), (1, .int x), (2, .int y), (3, .ref owh)] := hl
  have hF : f_L_isHourOf q v x y ow = (if (f_X9_isHourOf q v x y).1 = "" then (if (f_X9_isHourOf q v x y).2 = (0 : Int32) then ((0 : Int32), (vp_updL ow (0 : Int32).toNatClampNeg (0 : Int64))) else ((0 : Int32), (vp_updL ow (0 : Int32).toNatClampNeg (1 : Int64)))) else (if (f_X9_isHourOf q v x y).1 = "java/lang/IndexOutOfBoundsException" then ((1 : Int32), ow) else (if (f_X9_isHourOf q v x y).1 = "java/lang/IllegalArgumentException" then ((2 : Int32), ow) else (0, ow)))) := rfl
  have hok : (if (f_X9_isHourOf q v x y).1 = "" then True else (if (f_X9_isHourOf q v x y).1 = "java/lang/IndexOutOfBoundsException" then True else (if (f_X9_isHourOf q v x y).1 = "java/lang/IllegalArgumentException" then True else False))) := hok
  refine lv_aload_n hx hb dL_isHourOf_0 rfl (lv_at hl 3 rfl) ?_
  refine lv_iconst (v := (0 : Int32)) hx hb dL_isHourOf_1 (by decide) ?_
  refine lv_aload_n hx hb dL_isHourOf_2 rfl (lv_at hl 0 rfl) ?_
  refine lv_iload_n hx hb dL_isHourOf_3 rfl (lv_at hl 1 rfl) ?_
  refine lv_iload_n hx hb dL_isHourOf_4 rfl (lv_at hl 2 rfl) ?_
  refine xr_V (own := RL) (v := (some (.int ((f_X9_isHourOf q v x y).2)))) (st1 := [.int ((f_X9_isHourOf q v x y).2), .int (0 : Int32), .ref owh]) (As := [.int x, .int y]) (rest := [.int (0 : Int32), .ref owh]) (c_X9_isHourOfS l hlf G qh0 q_snapshot q_history q_program q_notice va q v x y) ⟨hx, hb, hml, hown, hts⟩ g_L_45 hdv_X9_isHourOf hK hST hS hP [0, 1, 2, 3, 4, 5, 6, 7, 8, 9, 10, 11, 12, 13, 14, 15, 16, 17, 18, 19, 20] rfl (k0 := 0) rfl rfl rfl ⟨Nat.le_of_ble_eq_true rfl, Nat.le_of_ble_eq_true rfl⟩ ⟨Nat.le_of_ble_eq_true rfl, Nat.le_of_ble_eq_true rfl⟩ rfl hl.1 rfl (Nat.le_of_ble_eq_true rfl) dL_isHourOf_5 rfl (fun E ce q9 H hE h1 h2 h3 h4 h5 => ?_) (fun b_1 => ?_)
  · have hF := hF.trans (if_neg (fun e => hE.2 (hE.1.trans e)))
    have hok := Eq.mp (if_neg (fun e => hE.2 (hE.1.trans e))) hok
    have hP := hP.kept (fun k q hk => h2 q.1 ((hP k q hk).lt))
    have hS : va_S A s.heap H _ := ⟨Nat.le_trans hS.1 h1, fun q hq hA => (h2 q (Nat.lt_of_lt_of_le hq hS.1)).trans (hS.2.1 q hq hA), hS.2.2⟩
    by_cases c_2 : (f_X9_isHourOf q v x y).1 = "java/lang/IndexOutOfBoundsException"
    · have hF := hF.trans (if_pos c_2)
      have hok := Eq.mp (if_pos c_2) hok
      have hEE : E = "java/lang/IndexOutOfBoundsException" := hE.1.trans c_2
      subst hEE
      refine vx_catch (own := RL) (name := "java/lang/IndexOutOfBoundsException") hown [] (⟨0, 17, 20, 21⟩ : ExceptionTableEntry) [(⟨0, 17, 24, 13⟩ : ExceptionTableEntry)] (hxt.trans rfl) (fun z hz => nomatch hz) (by decide) (by decide) (hts _ u_608) (va_tabs rfl rfl (hST.2.2.2.2.2.2.2.1 _ cst_IndexOutOfBoundsException)) h3 h4 h5 ?_
      refine W.eq (g2 := F0 m 20 ls [.ref q9]) rfl ?_
      refine lv_astore (lv' := [(4, .ref q9), (0, .ref qh0), (1, .int x), (2, .int y), (3, .ref owh)]) hx hb dL_isHourOf_20 hl (by decide) rfl (fun ls hl => ?_)
      refine lv_iconst (v := (1 : Int32)) hx hb dL_isHourOf_22 (by decide) ?_
      exact w_ret (u := ((1 : Int32), ow)) hx hb hr hlk rfl hS rfl hF.symm hP hD (Nat.le_of_ble_eq_true rfl) (Nat.le_of_ble_eq_true rfl) dL_isHourOf_23
    · have hF := hF.trans (if_neg c_2)
      have hok := Eq.mp (if_neg c_2) hok
      by_cases c_3 : (f_X9_isHourOf q v x y).1 = "java/lang/IllegalArgumentException"
      · have hF := hF.trans (if_pos c_3)
        have hok := Eq.mp (if_pos c_3) hok
        have hEE : E = "java/lang/IllegalArgumentException" := hE.1.trans c_3
        subst hEE
        refine vx_catch (own := RL) (name := "java/lang/IllegalArgumentException") hown [(⟨0, 17, 20, 21⟩ : ExceptionTableEntry)] (⟨0, 17, 24, 13⟩ : ExceptionTableEntry) [] (hxt.trans rfl) (List.forall_mem_cons.mpr ⟨Or.inr ⟨by decide, "java/lang/IndexOutOfBoundsException", hts _ u_608, hST.2.2.2.2.2.2.2.2.1 ("java/lang/IllegalArgumentException", "java/lang/IndexOutOfBoundsException") (by decide +kernel)⟩, fun _ h => nomatch h⟩) (by decide) (by decide) (hts _ u_403) (va_tabs rfl rfl (hST.2.2.2.2.2.2.2.1 _ cst_IllegalArgumentException)) h3 h4 h5 ?_
        refine W.eq (g2 := F0 m 24 ls [.ref q9]) rfl ?_
        refine lv_astore (lv' := [(4, .ref q9), (0, .ref qh0), (1, .int x), (2, .int y), (3, .ref owh)]) hx hb dL_isHourOf_24 hl (by decide) rfl (fun ls hl => ?_)
        refine lv_iconst (v := (2 : Int32)) hx hb dL_isHourOf_26 (by decide) ?_
        exact w_ret (u := ((2 : Int32), ow)) hx hb hr hlk rfl hS rfl hF.symm hP hD (Nat.le_of_ble_eq_true rfl) (Nat.le_of_ble_eq_true rfl) dL_isHourOf_27
      · have hF := hF.trans (if_neg c_3)
        have hok := Eq.mp (if_neg c_3) hok
        exact hok.elim
  · have hE := b_1.1
    have b_1 := b_1.2
    have hF := hF.trans (if_pos hE)
    have hok := Eq.mp (if_pos hE) hok
    refine lv_if_eq (tgt := 15) hx hb dL_isHourOf_8 (by decide) (fun c_4 => ?_) (fun c_4 => ?_)
    · have hF := hF.trans (if_pos c_4)
      refine lv_lconst (v := (0 : Int64)) hx hb dL_isHourOf_15 (by decide) ?_
      refine va_last hx hb hK hP hD hS 21 3 rfl rfl (vp_in_nI (n := 0) (by decide) (by decide)) dL_isHourOf_16 (fun H locs hP hD hS => ?_)
      have hP : va_P G.1 vwCl (fl [[(qh0, .inr (11, [.ref (va 0), .ref q_snapshot, .int q.1, .ref q_history, .ref q_program, .ref q_notice, .int q.2.1, .int q.2.2]))], wSt G va v, [(owh, .inl (G.2.1 3, 1, .inr (.inl (vp_updL ow (0 : Int32).toNatClampNeg (0 : Int64)))))]]) H := hP
      have hD : va_D A (fl [[(qh0, .inr (11, [.ref (va 0), .ref q_snapshot, .int q.1, .ref q_history, .ref q_program, .ref q_notice, .int q.2.1, .int q.2.2]))], wSt G va v, [(owh, .inl (G.2.1 3, 1, .inr (.inl (vp_updL ow (0 : Int32).toNatClampNeg (0 : Int64)))))]]) := hD
      refine lv_goto (tgt := 28) hx hb dL_isHourOf_17 (by decide) ?_
      refine lv_iconst (v := (0 : Int32)) hx hb dL_isHourOf_28 (by decide) ?_
      exact w_ret (u := ((0 : Int32), (vp_updL ow (0 : Int32).toNatClampNeg (0 : Int64)))) hx hb hr hlk rfl hS rfl hF.symm hP hD (Nat.le_of_ble_eq_true rfl) (Nat.le_of_ble_eq_true rfl) dL_isHourOf_29
    · have hF := hF.trans (if_neg c_4)
      refine lv_lconst (v := (1 : Int64)) hx hb dL_isHourOf_11 (by decide) ?_
      refine lv_goto (tgt := 16) hx hb dL_isHourOf_12 (by decide) ?_
      refine va_last hx hb hK hP hD hS 21 3 rfl rfl (vp_in_nI (n := 0) (by decide) (by decide)) dL_isHourOf_16 (fun H locs hP hD hS => ?_)
      have hP : va_P G.1 vwCl (fl [[(qh0, .inr (11, [.ref (va 0), .ref q_snapshot, .int q.1, .ref q_history, .ref q_program, .ref q_notice, .int q.2.1, .int q.2.2]))], wSt G va v, [(owh, .inl (G.2.1 3, 1, .inr (.inl (vp_updL ow (0 : Int32).toNatClampNeg (1 : Int64)))))]]) H := hP
      have hD : va_D A (fl [[(qh0, .inr (11, [.ref (va 0), .ref q_snapshot, .int q.1, .ref q_history, .ref q_program, .ref q_notice, .int q.2.1, .int q.2.2]))], wSt G va v, [(owh, .inl (G.2.1 3, 1, .inr (.inl (vp_updL ow (0 : Int32).toNatClampNeg (1 : Int64)))))]]) := hD
      refine lv_goto (tgt := 28) hx hb dL_isHourOf_17 (by decide) ?_
      refine lv_iconst (v := (0 : Int32)) hx hb dL_isHourOf_28 (by decide) ?_
      exact w_ret (u := ((0 : Int32), (vp_updL ow (0 : Int32).toNatClampNeg (1 : Int64)))) hx hb hr hlk rfl hS rfl hF.symm hP hD (Nat.le_of_ble_eq_true rfl) (Nat.le_of_ble_eq_true rfl) dL_isHourOf_29
