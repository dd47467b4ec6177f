theorem dL_tryDoor_0 : decode cL_tryDoor 0 = .ok (.aload_n 0, 1) := by decide +kernel
theorem dL_tryDoor_1 : decode cL_tryDoor 1 = .ok (.iload_n 1, 1) := by decide +kernel
theorem dL_tryDoor_2 : decode cL_tryDoor 2 = .ok (.iload_n 2, 1) := by decide +kernel
theorem dL_tryDoor_3 : decode cL_tryDoor 3 = .ok (.invokevirtual 55, 3) := by decide +kernel
theorem u_723 : Cond.methodLink RL 55 yX9_tryDoor ∈ UW := uw 723 (by decide +kernel) rfl
theorem u_724 : Cond.instanceMethod yX9_tryDoor ∈ UW := uw 724 (by decide +kernel) rfl
theorem u_725 : Cond.selects RX9 yX9_tryDoor yX9_tryDoor ∈ UW := uw 725 (by decide +kernel) rfl
theorem u_726 : Cond.code yX9_tryDoor cX9_tryDoor 3 (some .int) ∈ UW := uw 726 (by decide +kernel) rfl
theorem g_L_55 : GoodIn UW (wsV RL 55 RX9 yX9_tryDoor (wsU yX9_tryDoor cX9_tryDoor 3 (some .int))) := gV u_723 u_724 u_725 u_21 u_726
theorem hdv_X9_tryDoor : yX9_tryDoor.cls = RX9 ∧ yX9_tryDoor.cls ≠ "java/lang/invoke/MethodHandle" ∧ yX9_tryDoor.cls ≠ "java/lang/invoke/VarHandle" ∧ (parseMethodDescriptor yX9_tryDoor.desc).map (fun d => d.parameters.length) = some 2 := by decide +kernel
theorem dL_tryDoor_6 : decode cL_tryDoor 6 = .ok (.ireturn, 1) := by decide +kernel
theorem dL_tryDoor_7 : decode cL_tryDoor 7 = .ok (.astore_n 3, 1) := by decide +kernel
theorem dL_tryDoor_8 : decode cL_tryDoor 8 = .ok (.ldc 17, 2) := by decide +kernel
theorem dL_tryDoor_10 : decode cL_tryDoor 10 = .ok (.ireturn, 1) := by decide +kernel
set_option maxHeartbeats 8000000 in
set_option maxRecDepth 100000 in
set_option linter.constructorNameAsVariable false in
theorem c_L_tryDoor (l : Launch) (hlf : l.stackTraces = false) (G : GG) (qh0 : Nat) (q_snapshot : Nat) (q_program : Nat) (q_notice : Nat) (va : Nat → Nat) (hih0 : Nat) (hsh : Nat) (hsa : Nat → Nat → Nat) (sz : Nat) (q : McV) (v : StV) (hi : HiV) (hs : Nat → StV) (ps : Int32) (dr : Int32) (hok : ok_L_tryDoor q v hi hs ps dr) : wMetH l yL_tryDoor cL_tryDoor 4 (some .int) [(0, 6, 7, 25)] 10 1 6 G (fl [[(qh0, .inr (11, [.ref (va 0), .ref q_snapshot, .int q.1, .ref hih0, .ref q_program, .ref q_notice, .int q.2.1, .int q.2.2]))], wSt G va v, [(hih0, .inr (7, [.int hi.1, .int hi.2, .ref hsh]))], wHs G hsh hsa hs]) [.ref qh0, .int ps, .int dr] sz (fun u : Int32 × StV × HiV × (Nat → StV) => some (.int u.1)) (fun u : Int32 × StV × HiV × (Nat → StV) => u = f_L_tryDoor q v hi hs ps dr) (fun u : Int32 × StV × HiV × (Nat → StV) => fl [[(qh0, .inr (11, [.ref (va 0), .ref q_snapshot, .int q.1, .ref hih0, .ref q_program, .ref q_notice, .int q.2.1, .int q.2.2]))], wSt G va u.2.1, [(hih0, .inr (7, [.int u.2.2.1.1, .int u.2.2.1.2, .ref hsh]))], wHs G hsh hsa u.2.2.2]) := by
  refine w_startH (by decide +kernel) (Nat.le_of_ble_eq_true rfl) ?_
  intro p e s m below meth c A hx hb hr hml hts hown hlk hin hxt hP hD hA hK hST ls hl
  have hS : va_S A s.heap s.heap [] := va_S.rf
  have hown : s.vm.findClass RL = some m.cls := hown
  have hl : lv_has ls 4 [(0, .ref qh0), (1, .int ps), (2, .int dr)] := hl
  have hF : f_L_tryDoor q v hi hs ps dr = (let uu_3 : String × Int32 × StV × HiV × (Nat → StV) := (f_X9_tryDoor q v hi hs ps dr); (if uu_3.1 = "" then (uu_3.2.1, uu_3.2.2.1, uu_3.2.2.2.1, uu_3.2.2.2.2) else (if (f_X9_tryDoor q v hi hs ps dr).1 = "java/lang/IndexOutOfBoundsException" then ((-900001 : Int32), v, hi, hs) else (0, v, hi, hs)))) := rfl
  have hok : (nx9 hi.2 ∧ (let uu_3 : String × Int32 × StV × HiV × (Nat → StV) := (f_X9_tryDoor q v hi hs ps dr); (if uu_3.1 = "" then True else (if (f_X9_tryDoor q v hi hs ps dr).1 = "java/lang/IndexOutOfBoundsException" then True else False)))) := hok
  refine lv_aload_n hx hb dL_tryDoor_0 rfl (lv_at hl 0 rfl) ?_
  refine lv_iload_n hx hb dL_tryDoor_1 rfl (lv_at hl 1 rfl) ?_
  refine lv_iload_n hx hb dL_tryDoor_2 rfl (lv_at hl 2 rfl) ?_
  have k_1 := hok.1
  have hok := hok.2
  refine xw_V (own := RL) (cs := [[(qh0, .inr (11, [.ref (va 0), .ref q_snapshot, .int q.1, .ref hih0, .ref q_program, .ref q_notice, .int q.2.1, .int q.2.2]))], wSt G va v, [(hih0, .inr (7, [.int hi.1, .int hi.2, .ref hsh]))], wHs G hsh hsa hs]) (rs := []) (As := [.int ps, .int dr]) (rest := []) (c_X9_tryDoorS l hlf G qh0 q_snapshot q_program q_notice va hih0 hsh hsa s.heap.size q v hi hs ps dr k_1) ⟨hx, hb, hml, hown, hts⟩ g_L_55 hdv_X9_tryDoor hK hST hS hP hD hA [0, 1, 2, 3] [] rfl rfl rfl (k0 := 0) rfl rfl rfl ⟨Nat.le_of_ble_eq_true rfl, Nat.le_of_ble_eq_true rfl⟩ ⟨Nat.le_of_ble_eq_true rfl, Nat.le_of_ble_eq_true rfl⟩ rfl hl.1 rfl (Nat.le_of_ble_eq_true rfl) dL_tryDoor_3 (fun E ce q9 H locs hE hP hS h3 h4 h5 => ?_) (fun uu_3 H locs huu hP hD hS => ?_)
  rotate_left
  obtain ⟨huu, b_2⟩ := huu
  rw [← huu] at b_2
  have euu_3 := huu
  have hP : va_P G.1 vwCl (fl [[(qh0, .inr (11, [.ref (va 0), .ref q_snapshot, .int q.1, .ref hih0, .ref q_program, .ref q_notice, .int q.2.1, .int q.2.2]))], wSt G va uu_3.2.2.1, [(hih0, .inr (7, [.int uu_3.2.2.2.1.1, .int uu_3.2.2.2.1.2, .ref hsh]))], wHs G hsh hsa uu_3.2.2.2.2]) H := hP
  have hD : va_D A (fl [[(qh0, .inr (11, [.ref (va 0), .ref q_snapshot, .int q.1, .ref hih0, .ref q_program, .ref q_notice, .int q.2.1, .int q.2.2]))], wSt G va uu_3.2.2.1, [(hih0, .inr (7, [.int uu_3.2.2.2.1.1, .int uu_3.2.2.2.1.2, .ref hsh]))], wHs G hsh hsa uu_3.2.2.2.2]) := hD
  refine W.eq (g2 := F0 m 6 ls [.int uu_3.2.1]) rfl ?_
  have hE := b_2.1
  have hF : f_L_tryDoor q v hi hs ps dr = (if uu_3.1 = "" then (uu_3.2.1, uu_3.2.2.1, uu_3.2.2.2.1, uu_3.2.2.2.2) else (if (f_X9_tryDoor q v hi hs ps dr).1 = "java/lang/IndexOutOfBoundsException" then ((-900001 : Int32), v, hi, hs) else (0, v, hi, hs))) := by subst euu_3; exact hF
  have hF := hF.trans (if_pos hE)
  have hok : (if uu_3.1 = "" then True else (if (f_X9_tryDoor q v hi hs ps dr).1 = "java/lang/IndexOutOfBoundsException" then True else False)) := by subst euu_3; exact hok
  have hok := Eq.mp (if_pos hE) hok
  exact w_ret (u := (uu_3.2.1, uu_3.2.2.1, uu_3.2.2.2.1, uu_3.2.2.2.2)) hx hb hr hlk rfl hS rfl hF.symm hP hD (Nat.le_of_ble_eq_true rfl) (Nat.le_of_ble_eq_true rfl) dL_tryDoor_6
  have hF := hF.trans (if_neg (fun e => hE.2 (hE.1.trans e)))
  have hok := Eq.mp (if_neg (fun e => hE.2 (hE.1.trans e))) hok
  by_cases c_4 : (f_X9_tryDoor q v hi hs ps dr).1 = "java/lang/IndexOutOfBoundsException"
  · have hF := hF.trans (if_pos c_4)
    have hok := Eq.mp (if_pos c_4) hok
    have hEE : E = "java/lang/IndexOutOfBoundsException" := hE.1.trans c_4
    subst hEE
    refine vx_catch (own := RL) (name := "java/lang/IndexOutOfBoundsException") hown [] (⟨0, 6, 7, 25⟩ : ExceptionTableEntry) [] (hxt.trans rfl) (fun z hz => nomatch hz) (by decide) (by decide) (hts _ u_578) (va_tabs rfl rfl (hST.2.2.2.2.2.2.2.1 _ cst_IndexOutOfBoundsException)) h3 h4 h5 ?_
    refine W.eq (g2 := F0 m 7 ls [.ref q9]) rfl ?_
    refine lv_astore_n (lv' := [(3, .ref q9), (0, .ref qh0), (1, .int ps), (2, .int dr)]) hx hb dL_tryDoor_7 rfl hl (by decide) rfl (fun ls hl => ?_)
    refine lv_ldc hx hb hown (hts _ u_704) dL_tryDoor_8 ?_
    exact w_ret (u := ((-900001 : Int32), v, hi, hs)) hx hb hr hlk rfl hS rfl hF.symm hP hD (Nat.le_of_ble_eq_true rfl) (Nat.le_of_ble_eq_true rfl) dL_tryDoor_10
  · have hF := hF.trans (if_neg c_4)
    have hok := Eq.mp (if_neg c_4) hok
    exact hok.elim
theorem dL_wouldEnter_0 : decode cL_wouldEnter 0 = .ok (.aload_n 0, 1) := by decide +kernel
theorem dL_wouldEnter_1 : decode cL_wouldEnter 1 = .ok (.iload_n 1, 1) := by decide +kernel
theorem dL_wouldEnter_2 : decode cL_wouldEnter 2 = .ok (.iload_n 2, 1) := by decide +kernel
theorem dL_wouldEnter_3 : decode cL_wouldEnter 3 = .ok (.invokevirtual 58, 3) := by decide +kernel
theorem u_778 : Cond.methodLink RL 58 yX9_wouldEnter ∈ UW := uw 778 (by decide +kernel) rfl
theorem u_779 : Cond.instanceMethod yX9_wouldEnter ∈ UW := uw 779 (by decide +kernel) rfl
theorem u_780 : Cond.selects RX9 yX9_wouldEnter yX9_wouldEnter ∈ UW := uw 780 (by decide +kernel) rfl
theorem u_781 : Cond.code yX9_wouldEnter cX9_wouldEnter 3 (some .int) ∈ UW := uw 781 (by decide +kernel) rfl
theorem g_L_58 : GoodIn UW (wsV RL 58 RX9 yX9_wouldEnter (wsU yX9_wouldEnter cX9_wouldEnter 3 (some .int))) := gV u_778 u_779 u_780 u_21 u_781
theorem hdv_X9_wouldEnter : yX9_wouldEnter.cls = RX9 ∧ yX9_wouldEnter.cls ≠ "java/lang/invoke/MethodHandle" ∧ yX9_wouldEnter.cls ≠ "java/lang/invoke/VarHandle" ∧ (parseMethodDescriptor yX9_wouldEnter.desc).map (fun d => d.parameters.length) = some 2 := by decide +kernel
theorem dL_wouldEnter_7 : decode cL_wouldEnter 7 = .ok (.astore_n 3, 1) := by decide +kernel
theorem dL_wouldEnter_8 : decode cL_wouldEnter 8 = .ok (.ldc 17, 2) := by decide +kernel
theorem dL_wouldEnter_10 : decode cL_wouldEnter 10 = .ok (.ireturn, 1) := by decide +kernel
theorem dL_wouldEnter_6 : decode cL_wouldEnter 6 = .ok (.ireturn, 1) := by decide +kernel
set_option maxHeartbeats 8000000 in
set_option maxRecDepth 100000 in
set_option linter.constructorNameAsVariable false in
theorem c_L_wouldEnter (l : Launch) (hlf : l.stackTraces = false) (G : GG) (qh0 : Nat) (q_snapshot : Nat) (q_history : Nat) (q_program : Nat) (q_notice : Nat) (va : Nat → Nat) (sz : Nat) (q : McV) (v : StV) (x : Int32) (y : Int32) (hok : ok_L_wouldEnter q v x y) : wMetH l yL_wouldEnter cL_wouldEnter 4 (some .int) [(0, 6, 7, 25)] 10 1 6 G (fl [[(qh0, .inr (11, [.ref (va 0), .ref q_snapshot, .int q.1, .ref q_history, .ref q_program, .ref q_notice, .int q.2.1, .int q.2.2]))], wSt G va v]) [.ref qh0, .int x, .int y] sz (fun u : Int32 => some (.int u)) (fun u : Int32 => u = f_L_wouldEnter q v x y) (fun u : Int32 => fl [[(qh0, .inr (11, [.ref (va 0), .ref q_snapshot, .int q.1, .ref q_history, .ref q_program, .ref q_notice, .int q.2.1, .int q.2.2]))], wSt G va v]) := by
  refine w_startH (by decide +kernel) (Nat.le_of_ble_eq_true rfl) ?_
  intro p e s m below meth c A hx hb hr hml hts hown hlk hin hxt hP hD hA hK hST ls hl
  have hS : va_S A s.heap s.heap [] := va_S.rf
  have hown : s.vm.findClass RL = some m.cls := hown
  have hl : lv_has ls 4 [(0, .ref qh0), (1, .int x), (2, .int y)] := hl
  have hF : f_L_wouldEnter q v x y = (if (f_X9_wouldEnter q v x y).1 = "" then (f_X9_wouldEnter q v x y).2 else (if (f_X9_wouldEnter q v x y).1 = "java/lang/IndexOutOfBoundsException" then (-900001 : Int32) else 0)) := rfl
  have hok : (if (f_X9_wouldEnter q v x y).1 = "" then True else (if (f_X9_wouldEnter q v x y).1 = "java/lang/IndexOutOfBoundsException" then True else False)) := hok
  refine lv_aload_n hx hb dL_wouldEnter_0 rfl (lv_at hl 0 rfl) ?_
  refine lv_iload_n hx hb dL_wouldEnter_1 rfl (lv_at hl 1 rfl) ?_
  refine lv_iload_n hx hb dL_wouldEnter_2 rfl (lv_at hl 2 rfl) ?_
  refine xr_V (own := RL) (v := (some (.int ((f_X9_wouldEnter q v x y).2)))) (st1 := [.int ((f_X9_wouldEnter q v x y).2)]) (As := [.int x, .int y]) (rest := []) (c_X9_wouldEnterS l hlf G qh0 q_snapshot q_history q_program q_notice va q v x y) ⟨hx, hb, hml, hown, hts⟩ g_L_58 hdv_X9_wouldEnter hK hST hS hP [0, 1, 2, 3, 4, 5, 6, 7, 8, 9, 10, 11, 12, 13, 14, 15, 16, 17, 18, 19, 20] rfl (k0 := 0) rfl rfl rfl ⟨Nat.le_of_ble_eq_true rfl, Nat.le_of_ble_eq_true rfl⟩ ⟨Nat.le_of_ble_eq_true rfl, Nat.le_of_ble_eq_true rfl⟩ rfl hl.1 rfl (Nat.le_of_ble_eq_true rfl) dL_wouldEnter_3 rfl (fun E ce q9 H hE h1 h2 h3 h4 h5 => ?_) (fun b_1 => ?_)
  · have hF := hF.trans (if_neg (fun e => hE.2 (hE.1.trans e)))
    have hok := Eq.mp (if_neg (fun e => hE.2 (hE.1.trans e))) hok
    have hP := hP.kept (fun k q hk => h2 q.1 ((hP k q hk).lt))
    have hS : va_S A s.heap H _ := ⟨Nat.le_trans hS.1 h1, fun q hq hA => (h2 q (Nat.lt_of_lt_of_le hq hS.1)).trans (hS.2.1 q hq hA), hS.2.2⟩
    by_cases c_2 : (f_X9_wouldEnter q v x y).1 = "java/lang/IndexOutOfBoundsException"
    · have hF := hF.trans (if_pos c_2)
      have hok := Eq.mp (if_pos c_2) hok
      have hEE : E = "java/lang/IndexOutOfBoundsException" := hE.1.trans c_2
      subst hEE
      refine vx_catch (own := RL) (name := "java/lang/IndexOutOfBoundsException") hown [] (⟨0, 6, 7, 25⟩ : ExceptionTableEntry) [] (hxt.trans rfl) (fun z hz => nomatch hz) (by decide) (by decide) (hts _ u_578) (va_tabs rfl rfl (hST.2.2.2.2.2.2.2.1 _ cst_IndexOutOfBoundsException)) h3 h4 h5 ?_
      refine W.eq (g2 := F0 m 7 ls [.ref q9]) rfl ?_
      refine lv_astore_n (lv' := [(3, .ref q9), (0, .ref qh0), (1, .int x), (2, .int y)]) hx hb dL_wouldEnter_7 rfl hl (by decide) rfl (fun ls hl => ?_)
      refine lv_ldc hx hb hown (hts _ u_704) dL_wouldEnter_8 ?_
      exact w_ret (u := (-900001 : Int32)) hx hb hr hlk rfl hS rfl hF.symm hP hD (Nat.le_of_ble_eq_true rfl) (Nat.le_of_ble_eq_true rfl) dL_wouldEnter_10
    · have hF := hF.trans (if_neg c_2)
      have hok := Eq.mp (if_neg c_2) hok
      exact hok.elim
  · have hE := b_1.1
    have b_1 := b_1.2
    have hF := hF.trans (if_pos hE)
    have hok := Eq.mp (if_pos hE) hok
    exact w_ret (u := (f_X9_wouldEnter q v x y).2) hx hb hr hlk rfl hS rfl hF.symm hP hD (Nat.le_of_ble_eq_true rfl) (Nat.le_of_ble_eq_true rfl) dL_wouldEnter_6
theorem dL_personByEntries_0 : decode cL_personByEntries 0 = .ok (.aload_n 0, 1) := by decide +kernel
theorem dL_personByEntries_1 : decode cL_personByEntries 1 = .ok (.iload_n 1, 1) := by decide +kernel
theorem dL_personByEntries_2 : decode cL_personByEntries 2 = .ok (.invokevirtual 61, 3) := by decide +kernel
theorem u_786 : Cond.methodLink RL 61 yX9_personByEntries ∈ UW := uw 786 (by decide +kernel) rfl
theorem u_787 : Cond.instanceMethod yX9_personByEntries ∈ UW := uw 787 (by decide +kernel) rfl
theorem u_788 : Cond.selects RX9 yX9_personByEntries yX9_personByEntries ∈ UW := uw 788 (by decide +kernel) rfl
theorem u_789 : Cond.code yX9_personByEntries cX9_personByEntries 2 (some .int) ∈ UW := uw 789 (by decide +kernel) rfl
theorem g_L_61 : GoodIn UW (wsV RL 61 RX9 yX9_personByEntries (wsU yX9_personByEntries cX9_personByEntries 2 (some .int))) := gV u_786 u_787 u_788 u_21 u_789
theorem hdv_X9_personByEntries : yX9_personByEntries.cls = RX9 ∧ yX9_personByEntries.cls ≠ "java/lang/invoke/MethodHandle" ∧ yX9_personByEntries.cls ≠ "java/lang/invoke/VarHandle" ∧ (parseMethodDescriptor yX9_personByEntries.desc).map (fun d => d.parameters.length) = some 1 := by decide +kernel
theorem dL_personByEntries_6 : decode cL_personByEntries 6 = .ok (.astore_n 2, 1) := by decide +kernel
theorem dL_personByEntries_7 : decode cL_personByEntries 7 = .ok (.ldc 17, 2) := by decide +kernel
theorem dL_personByEntries_9 : decode cL_personByEntries 9 = .ok (.ireturn, 1) := by decide +kernel
theorem dL_personByEntries_5 : decode cL_personByEntries 5 = .ok (.ireturn, 1) := by decide +kernel
set_option maxHeartbeats 8000000 in
set_option maxRecDepth 100000 in
set_option linter.constructorNameAsVariable false in
theorem c_L_personByEntries (l : Launch) (hlf : l.stackTraces = false) (G : GG) (qh0 : Nat) (q_snapshot : Nat) (q_history : Nat) (q_program : Nat) (q_notice : Nat) (va : Nat → Nat) (sz : Nat) (q : McV) (v : StV) (x : Int32) (hok : ok_L_personByEntries q v x) : wMetH l yL_personByEntries cL_personByEntries 3 (some .int) [(0, 5, 6, 25)] 10 1 6 G (fl [[(qh0, .inr (11, [.ref (va 0), .ref q_snapshot, .int q.1, .ref q_history, .ref q_program, .ref q_notice, .int q.2.1, .int q.2.2]))], wSt G va v]) [.ref qh0, .int x] sz (fun u : Int32 => some (.int u)) (fun u : Int32 => u = f_L_personByEntries q v x) (fun u : Int32 => fl [[(qh0, .inr (11, [.ref (va 0), .ref q_snapshot, .int q.1, .ref q_history, .ref q_program, .ref q_notice, .int q.2.1, .int q.2.2]))], wSt G va v]) := by
  refine w_startH (by decide +kernel) (Nat.le_of_ble_eq_true rfl) ?_
  intro p e s m below meth c A hx hb hr hml hts hown hlk hin hxt hP hD hA hK hST ls hl
  have hS : va_S A s.heap s.heap [] := va_S.rf
  have hown : s.vm.findClass RL = some m.cls := hown
  have hl : lv_has ls 3 [(0, .ref qh0), (1, .int x)] := hl
  have hF : f_L_personByEntries q v x = (if (f_X9_personByEntries q v x).1 = "" then (f_X9_personByEntries q v x).2 else (if (f_X9_personByEntries q v x).1 = "java/lang/IndexOutOfBoundsException" then (-900001 : Int32) else 0)) := rfl
  have hok : (if (f_X9_personByEntries q v x).1 = "" then True else (if (f_X9_personByEntries q v x).1 = "java/lang/IndexOutOfBoundsException" then True else False)) := hok
  refine lv_aload_n hx hb dL_personByEntries_0 rfl (lv_at hl 0 rfl) ?_
  refine lv_iload_n hx hb dL_personByEntries_1 rfl (lv_at hl 1 rfl) ?_
  refine xr_V (own := RL) (v := (some (.int ((f_X9_personByEntries q v x).2)))) (st1 := [.int ((f_X9_personByEntries q v x).2)]) (As := [.int x]) (rest := []) (c_X9_personByEntriesS l hlf G qh0 q_snapshot q_history q_program q_notice va q v x) ⟨hx, hb, hml, hown, hts⟩ g_L_61 hdv_X9_personByEntries hK hST hS hP [0, 1, 2, 3, 4, 5, 6, 7, 8, 9, 10, 11, 12, 13, 14, 15, 16, 17, 18, 19, 20] rfl (k0 := 0) rfl rfl rfl ⟨Nat.le_of_ble_eq_true rfl, Nat.le_of_ble_eq_true rfl⟩ ⟨Nat.le_of_ble_eq_true rfl, Nat.le_of_ble_eq_true rfl⟩ rfl hl.1 rfl (Nat.le_of_ble_eq_true rfl) dL_personByEntries_2 rfl (fun E ce q9 H hE h1 h2 h3 h4 h5 => ?_) (fun b_1 => ?_)
  · have hF := hF.trans (if_neg (fun e => hE.2 (hE.1.trans e)))
    have hok := Eq.mp (if_neg (fun e => hE.2 (hE.1.trans e))) hok
    have hP := hP.kept (fun k q hk => h2 q.1 ((hP k q hk).lt))
    have hS : va_S A s.heap H _ := ⟨Nat.le_trans hS.1 h1, fun q hq hA => (h2 q (Nat.lt_of_lt_of_le hq hS.1)).trans (hS.2.1 q hq hA), hS.2.2⟩
    by_cases c_2 : (f_X9_personByEntries q v x).1 = "java/lang/IndexOutOfBoundsException"
    · have hF := hF.trans (if_pos c_2)
      have hok := Eq.mp (if_pos c_2) hok
      have hEE : E = "java/lang/IndexOutOfBoundsException" := hE.1.trans c_2
      subst hEE
      refine vx_catch (own := RL) (name := "java/lang/IndexOutOfBoundsException") hown [] (⟨0, 5, 6, 25⟩ : ExceptionTableEntry) [] (hxt.trans rfl) (fun z hz => nomatch hz) (by decide) (by decide) (hts _ u_578) (va_tabs rfl rfl (hST.2.2.2.2.2.2.2.1 _ cst_IndexOutOfBoundsException)) h3 h4 h5 ?_
      refine W.eq (g2 := F0 m 6 ls [.ref q9]) rfl ?_
      refine lv_astore_n (lv' := [(2, .ref q9), (0, .ref qh0), (1, .int x)]) hx hb dL_personByEntries_6 rfl hl (by decide) rfl (fun ls hl => ?_)
      refine lv_ldc hx hb hown (hts _ u_704) dL_personByEntries_7 ?_
      exact w_ret (u := (-900001 : Int32)) hx hb hr hlk rfl hS rfl hF.symm hP hD (Nat.le_of_ble_eq_true rfl) (Nat.le_of_ble_eq_true rfl) dL_personByEntries_9
    · have hF := hF.trans (if_neg c_2)
      have hok := Eq.mp (if_neg c_2) hok
      exact hok.elim
  · have hE := b_1.1
    have b_1 := b_1.2
    have hF := hF.trans (if_pos hE)
    have hok := Eq.mp (if_pos hE) hok
    exact w_ret (u := (f_X9_personByEntries q v x).2) hx hb hr hlk rfl hS rfl hF.symm hP hD (Nat.le_of_ble_eq_true rfl) (Nat.le_of_ble_eq_true rfl) dL_personByEntries_5
theorem dL_advance_0 : decode cL_advance 0 = .ok (.aload_n 0, 1) := by decide +kernel
theorem dL_advance_1 : decode cL_advance 1 = .ok (.iload_n 1, 1) := by decide +kernel
theorem dL_advance_2 : decode cL_advance 2 = .ok (.invokevirtual 64, 3) := by decide +kernel
theorem u_808 : Cond.methodLink RL 64 yX9_advance ∈ UW := uw 808 (by decide +kernel) rfl
theorem u_809 : Cond.instanceMethod yX9_advance ∈ UW := uw 809 (by decide +kernel) rfl
theorem u_810 : Cond.selects RX9 yX9_advance yX9_advance ∈ UW := uw 810 (by decide +kernel) rfl
theorem u_811 : Cond.code yX9_advance cX9_advance 2 (some .int) ∈ UW := uw 811 (by decide +kernel) rfl
theorem g_L_64 : GoodIn UW (wsV RL 64 RX9 yX9_advance (wsU yX9_advance cX9_advance 2 (some .int))) := gV u_808 u_809 u_810 u_21 u_811
theorem hdv_X9_advance : yX9_advance.cls = RX9 ∧ yX9_advance.cls ≠ "java/lang/invoke/MethodHandle" ∧ yX9_advance.cls ≠ "java/lang/invoke/VarHandle" ∧ (parseMethodDescriptor yX9_advance.desc).map (fun d => d.parameters.length) = some 1 := by decide +kernel
theorem dL_advance_5 : decode cL_advance 5 = .ok (.ireturn, 1) := by decide +kernel
theorem dL_advance_6 : decode cL_advance 6 = .ok (.astore_n 2, 1) := by decide +kernel
theorem dL_advance_7 : decode cL_advance 7 = .ok (.ldc 17, 2) := by decide +kernel
theorem dL_advance_9 : decode cL_advance 9 = .ok (.ireturn, 1) := by decide +kernel
set_option maxHeartbeats 8000000 in
set_option maxRecDepth 100000 in
set_option linter.constructorNameAsVariable false in
theorem c_L_advance (l : Launch) (hlf : l.stackTraces = false) (G : GG) (qh0 : Nat) (q_snapshot : Nat) (q_program : Nat) (q_notice : Nat) (va : Nat → Nat) (hih0 : Nat) (hsh : Nat) (hsa : Nat → Nat → Nat) (sz : Nat) (q : McV) (v : StV) (hi : HiV) (hs : Nat → StV) (ho : Int32) (hok : ok_L_advance q v hi hs ho) : wMetH l yL_advance cL_advance 3 (some .int) [(0, 5, 6, 15)] 10 1 6 G (fl [[(qh0, .inr (11, [.ref (va 0), .ref q_snapshot, .int q.1, .ref hih0, .ref q_program, .ref q_notice, .int q.2.1, .int q.2.2]))], wSt G va v, [(hih0, .inr (7, [.int hi.1, .int hi.2, .ref hsh]))], wHs G hsh hsa hs]) [.ref qh0, .int ho] sz (fun u : Int32 × StV × HiV × (Nat → StV) => some (.int u.1)) (fun u : Int32 × StV × HiV × (Nat → StV) => u = f_L_advance q v hi hs ho) (fun u : Int32 × StV × HiV × (Nat → StV) => fl [[(qh0, .inr (11, [.ref (va 0), .ref q_snapshot, .int q.1, .ref hih0, .ref q_program, .ref q_notice, .int q.2.1, .int q.2.2]))], wSt G va u.2.1, [(hih0, .inr (7, [.int u.2.2.1.1, .int u.2.2.1.2, .ref hsh]))], wHs G hsh hsa u.2.2.2]) := by
  refine w_startH (by decide +kernel) (Nat.le_of_ble_eq_true rfl) ?_
  intro p e s m below meth c A hx hb hr hml hts hown hlk hin hxt hP hD hA hK hST ls hl
  have hS : va_S A s.heap s.heap [] := va_S.rf
  have hown : s.vm.findClass RL = some m.cls := hown
  have hl : lv_has ls 3 [(0, .ref qh0), (1, .int ho)] := hl
  have hF : f_L_advance q v hi hs ho = (let uu_3 : String × Int32 × StV × HiV × (Nat → StV) := (f_X9_advance q v hi hs ho); (if uu_3.1 = "" then (uu_3.2.1, uu_3.2.2.1, uu_3.2.2.2.1, uu_3.2.2.2.2) else (if (f_X9_advance q v hi hs ho).1 = "java/lang/IllegalArgumentException" then ((-900001 : Int32), v, hi, hs) else (0, v, hi, hs)))) := rfl
  have hok : (nx9 hi.2 ∧ (let uu_3 : String × Int32 × StV × HiV × (Nat → StV) := (f_X9_advance q v hi hs ho); (if uu_3.1 = "" then True else (if (f_X9_advance q v hi hs ho).1 = "java/lang/IllegalArgumentException" then True else False)))) := hok
  refine lv_aload_n hx hb dL_advance_0 rfl (lv_at hl 0 rfl) ?_
  refine lv_iload_n hx hb dL_advance_1 rfl (lv_at hl 1 rfl) ?_
  have k_1 := hok.1
  have hok := hok.2
  refine xw_V (own := RL) (cs := [[(qh0, .inr (11, [.ref (va 0), .ref q_snapshot, .int q.1, .ref hih0, .ref q_program, .ref q_notice, .int q.2.1, .int q.2.2]))], wSt G va v, [(hih0, .inr (7, [.int hi.1, .int hi.2, .ref hsh]))], wHs G hsh hsa hs]) (rs := []) (As := [.int ho]) (rest := []) (c_X9_advanceS l hlf G qh0 q_snapshot q_program q_notice va hih0 hsh hsa s.heap.size q v hi hs ho k_1) ⟨hx, hb, hml, hown, hts⟩ g_L_64 hdv_X9_advance hK hST hS hP hD hA [0, 1, 2, 3] [] rfl rfl rfl (k0 := 0) rfl rfl rfl ⟨Nat.le_of_ble_eq_true rfl, Nat.le_of_ble_eq_true rfl⟩ ⟨Nat.le_of_ble_eq_true rfl, Nat.le_of_ble_eq_true rfl⟩ rfl hl.1 rfl (Nat.le_of_ble_eq_true rfl) dL_advance_2 (fun E ce q9 H locs hE hP hS h3 h4 h5 => ?_) (fun uu_3 H locs huu hP hD hS => ?_)
  rotate_left
  obtain ⟨huu, b_2⟩ := huu
  rw [← huu] at b_2
  have euu_3 := huu
  have hP : va_P G.1 vwCl (fl [[(qh0, .inr (11, [.ref (va 0), .ref q_snapshot, .int q.1, .ref hih0, .ref q_program, .ref q_notice, .int q.2.1, .int q.2.2]))], wSt G va uu_3.2.2.1, [(hih0, .inr (7, [.int uu_3.2.2.2.1.1, .int uu_3.2.2.2.1.2, .ref hsh]))], wHs G hsh hsa uu_3.2.2.2.2]) H := hP
  have hD : va_D A (fl [[(qh0, .inr (11, [.ref (va 0), .ref q_snapshot, .int q.1, .ref hih0, .ref q_program, .ref q_notice, .int q.2.1, .int q.2.2]))], wSt G va uu_3.2.2.1, [(hih0, .inr (7, [.int uu_3.2.2.2.1.1, .int uu_3.2.2.2.1.2, .ref hsh]))], wHs G hsh hsa uu_3.2.2.2.2]) := hD
  refine W.eq (g2 := F0 m 5 ls [.int uu_3.2.1]) rfl ?_
  have hE := b_2.1
  have hF : f_L_advance q v hi hs ho = (if uu_3.1 = "" then (uu_3.2.1, uu_3.2.2.1, uu_3.2.2.2.1, uu_3.2.2.2.2) else (if (f_X9_advance q v hi hs ho).1 = "java/lang/IllegalArgumentException" then ((-900001 : Int32), v, hi, hs) else (0, v, hi, hs))) := by subst euu_3; exact hF
  have hF := hF.trans (if_pos hE)
  have hok : (if uu_3.1 = "" then True else (if (f_X9_advance q v hi hs ho).1 = "java/lang/IllegalArgumentException" then True else False)) := by subst euu_3; exact hok
  have hok := Eq.mp (if_pos hE) hok
  exact w_ret (u := (uu_3.2.1, uu_3.2.2.1, uu_3.2.2.2.1, uu_3.2.2.2.2)) hx hb hr hlk rfl hS rfl hF.symm hP hD (Nat.le_of_ble_eq_true rfl) (Nat.le_of_ble_eq_true rfl) dL_advance_5
  have hF := hF.trans (if_neg (fun e => hE.2 (hE.1.trans e)))
  have hok := Eq.mp (if_neg (fun e => hE.2 (hE.1.trans e))) hok
  by_cases c_4 : (f_X9_advance q v hi hs ho).1 = "java/lang/IllegalArgumentException"
  · have hF := hF.trans (if_pos c_4)
    have hok := Eq.mp (if_pos c_4) hok
    have hEE : E = "java/lang/IllegalArgumentException" := hE.1.trans c_4
    subst hEE
    refine vx_catch (own := RL) (name := "java/lang/IllegalArgumentException") hown [] (⟨0, 5, 6, 15⟩ : ExceptionTableEntry) [] (hxt.trans rfl) (fun z hz => nomatch hz) (by decide) (by decide) (hts _ u_581) (va_tabs rfl rfl (hST.2.2.2.2.2.2.2.1 _ cst_IllegalArgumentException)) h3 h4 h5 ?_
    refine W.eq (g2 := F0 m 6 ls [.ref q9]) rfl ?_
    refine lv_astore_n (lv' := [(2, .ref q9), (0, .ref qh0), (1, .int ho)]) hx hb dL_advance_6 rfl hl (by decide) rfl (fun ls hl => ?_)
    refine lv_ldc hx hb hown (hts _ u_704) dL_advance_7 ?_
    exact w_ret (u := ((-900001 : Int32), v, hi, hs)) hx hb hr hlk rfl hS rfl hF.symm hP hD (Nat.le_of_ble_eq_true rfl) (Nat.le_of_ble_eq_true rfl) dL_advance_9
  · have hF := hF.trans (if_neg c_4)
    have hok := Eq.mp (if_neg c_4) hok
    exact hok.elim
theorem dL_daysUntilPhase_0 : decode cL_daysUntilPhase 0 = .ok (.aload_n 0, 1) := by decide +kernel
theorem dL_daysUntilPhase_1 : decode cL_daysUntilPhase 1 = .ok (.iload_n 1, 1) := by decide +kernel
theorem dL_daysUntilPhase_2 : decode cL_daysUntilPhase 2 = .ok (.invokevirtual 67, 3) := by decide +kernel
theorem u_826 : Cond.methodLink RL 67 yX9_daysUntilPhase ∈ UW := uw 826 (by decide +kernel) rfl
theorem u_827 : Cond.instanceMethod yX9_daysUntilPhase ∈ UW := uw 827 (by decide +kernel) rfl
theorem u_828 : Cond.selects RX9 yX9_daysUntilPhase yX9_daysUntilPhase ∈ UW := uw 828 (by decide +kernel) rfl
theorem u_829 : Cond.code yX9_daysUntilPhase cX9_daysUntilPhase 2 (some .int) ∈ UW := uw 829 (by decide +kernel) rfl
theorem g_L_67 : GoodIn UW (wsV RL 67 RX9 yX9_daysUntilPhase (wsU yX9_daysUntilPhase cX9_daysUntilPhase 2 (some .int))) := gV u_826 u_827 u_828 u_21 u_829
theorem hdv_X9_daysUntilPhase : yX9_daysUntilPhase.cls = RX9 ∧ yX9_daysUntilPhase.cls ≠ "java/lang/invoke/MethodHandle" ∧ yX9_daysUntilPhase.cls ≠ "java/lang/invoke/VarHandle" ∧ (parseMethodDescriptor yX9_daysUntilPhase.desc).map (fun d => d.parameters.length) = some 1 := by decide +kernel
theorem dL_daysUntilPhase_6 : decode cL_daysUntilPhase 6 = .ok (.astore_n 2, 1) := by decide +kernel
theorem dL_daysUntilPhase_7 : decode cL_daysUntilPhase 7 = .ok (.ldc 17, 2) := by decide +kernel
theorem dL_daysUntilPhase_9 : decode cL_daysUntilPhase 9 = .ok (.ireturn, 1) := by decide +kernel
theorem dL_daysUntilPhase_5 : decode cL_daysUntilPhase 5 = .ok (.ireturn, 1) := by decide +kernel
set_option maxHeartbeats 8000000 in
set_option maxRecDepth 100000 in
set_option linter.constructorNameAsVariable false in
theorem c_L_daysUntilPhase (l : Launch) (hlf : l.stackTraces = false) (G : GG) (qh0 : Nat) (q_snapshot : Nat) (q_history : Nat) (q_program : Nat) (q_notice : Nat) (va : Nat → Nat) (sz : Nat) (q : McV) (v : StV) (x : Int32) (hok : ok_L_daysUntilPhase q v x) : wMetH l yL_daysUntilPhase cL_daysUntilPhase 3 (some .int) [(0, 5, 6, 15)] 10 1 6 G (fl [[(qh0, .inr (11, [.ref (va 0), .ref q_snapshot, .int q.1, .ref q_history, .ref q_program, .ref q_notice, .int q.2.1, .int q.2.2]))], wSt G va v]) [.ref qh0, .int x] sz (fun u : Int32 => some (.int u)) (fun u : Int32 => u = f_L_daysUntilPhase q v x) (fun u : Int32 => fl [[(qh0, .inr (11, [.ref (va 0), .ref q_snapshot, .int q.1, .ref q_history, .ref q_program, .ref q_notice, .int q.2.1, .int q.2.2]))], wSt G va v]) := by
  refine w_startH (by decide +kernel) (Nat.le_of_ble_eq_true rfl) ?_
  intro p e s m below meth c A hx hb hr hml hts hown hlk hin hxt hP hD hA hK hST ls hl
  have hS : va_S A s.heap s.heap [] := va_S.rf
  have hown : s.vm.findClass RL = some m.cls := hown
  have hl : lv_has ls 3 [(0, .ref qh0), (1, .int x)] := hl
  have hF : f_L_daysUntilPhase q v x = (if (f_X9_daysUntilPhase q v x).1 = "" then (f_X9_daysUntilPhase q v x).2 else (if (f_X9_daysUntilPhase q v x).1 = "java/lang/IllegalArgumentException" then (-900001 : Int32) else 0)) := rfl
  have hok : (if (f_X9_daysUntilPhase q v x).1 = "" then True else (if (f_X9_daysUntilPhase q v x).1 = "java/lang/IllegalArgumentException" then True else False)) := hok
  refine lv_aload_n hx hb dL_daysUntilPhase_0 rfl (lv_at hl 0 rfl) ?_
  refine lv_iload_n hx hb dL_daysUntilPhase_1 rfl (lv_at hl 1 rfl) ?_
  refine xr_V (own := RL) (v := (some (.int ((f_X9_daysUntilPhase q v x).2)))) (st1 := [.int ((f_X9_daysUntilPhase q v x).2)]) (As := [.int x]) (rest := []) (c_X9_daysUntilPhaseS l hlf G qh0 q_snapshot q_history q_program q_notice va q v x) ⟨hx, hb, hml, hown, hts⟩ g_L_67 hdv_X9_daysUntilPhase hK hST hS hP [0, 1, 2, 3, 4, 5, 6, 7, 8, 9, 10, 11, 12, 13, 14, 15, 16, 17, 18, 19, 20] rfl (k0 := 0) rfl rfl rfl ⟨Nat.le_of_ble_eq_true rfl, Nat.le_of_ble_eq_true rfl⟩ ⟨Nat.le_of_ble_eq_true rfl, Nat.le_of_ble_eq_true rfl⟩ rfl hl.1 rfl (Nat.le_of_ble_eq_true rfl) dL_daysUntilPhase_2 rfl (fun E ce q9 H hE h1 h2 h3 h4 h5 => ?_) (fun b_1 => ?_)
  · have hF := hF.trans (if_neg (fun e => hE.2 (hE.1.trans e)))
    have hok := Eq.mp (if_neg (fun e => hE.2 (hE.1.trans e))) hok
    have hP := hP.kept (fun k q hk => h2 q.1 ((hP k q hk).lt))
    have hS : va_S A s.heap H _ := ⟨Nat.le_trans hS.1 h1, fun q hq hA => (h2 q (Nat.lt_of_lt_of_le hq hS.1)).trans (hS.2.1 q hq hA), hS.2.2⟩
    by_cases c_2 : (f_X9_daysUntilPhase q v x).1 = "java/lang/IllegalArgumentException"
    · have hF := hF.trans (if_pos c_2)
      have hok := Eq.mp (if_pos c_2) hok
      have hEE : E = "java/lang/IllegalArgumentException" := hE.1.trans c_2
      subst hEE
      refine vx_catch (own := RL) (name := "java/lang/IllegalArgumentException") hown [] (⟨0, 5, 6, 15⟩ : ExceptionTableEntry) [] (hxt.trans rfl) (fun z hz => nomatch hz) (by decide) (by decide) (hts _ u_581) (va_tabs rfl rfl (hST.2.2.2.2.2.2.2.1 _ cst_IllegalArgumentException)) h3 h4 h5 ?_
      refine W.eq (g2 := F0 m 6 ls [.ref q9]) rfl ?_
      refine lv_astore_n (lv' := [(2, .ref q9), (0, .ref qh0), (1, .int x)]) hx hb dL_daysUntilPhase_6 rfl hl (by decide) rfl (fun ls hl => ?_)
      refine lv_ldc hx hb hown (hts _ u_704) dL_daysUntilPhase_7 ?_
      exact w_ret (u := (-900001 : Int32)) hx hb hr hlk rfl hS rfl hF.symm hP hD (Nat.le_of_ble_eq_true rfl) (Nat.le_of_ble_eq_true rfl) dL_daysUntilPhase_9
    · have hF := hF.trans (if_neg c_2)
      have hok := Eq.mp (if_neg c_2) hok
      exact hok.elim
  · have hE := b_1.1
    have b_1 := b_1.2
    have hF := hF.trans (if_pos hE)
    have hok := Eq.mp (if_pos hE) hok
    exact w_ret (u := (f_X9_daysUntilPhase q v x).2) hx hb hr hlk rfl hS rfl hF.symm hP hD (Nat.le_of_ble_eq_true rfl) (Nat.le_of_ble_eq_true rfl) dL_daysUntilPhase_5
theorem dL_hoursUntilUnlocked_0 : decode cL_hoursUntilUnlocked 0 = .ok (.aload_n 0, 1) := by decide +kernel
theorem dL_hoursUntilUnlocked_1 : decode cL_hoursUntilUnlocked 1 = .ok (.iload_n 1, 1) := by decide +kernel
theorem dL_hoursUntilUnlocked_2 : decode cL_hoursUntilUnlocked 2 = .ok (.invokevirtual 70, 3) := by decide +kernel
theorem u_841 : Cond.methodLink RL 70 yX9_hoursUntilUnlocked ∈ UW := uw 841 (by decide +kernel) rfl
theorem u_842 : Cond.instanceMethod yX9_hoursUntilUnlocked ∈ UW := uw 842 (by decide +kernel) rfl
theorem u_843 : Cond.selects RX9 yX9_hoursUntilUnlocked yX9_hoursUntilUnlocked ∈ UW := uw 843 (by decide +kernel) rfl
theorem u_844 : Cond.code yX9_hoursUntilUnlocked cX9_hoursUntilUnlocked 3 (some .int) ∈ UW := uw 844 (by decide +kernel) rfl
theorem g_L_70 : GoodIn UW (wsV RL 70 RX9 yX9_hoursUntilUnlocked (wsU yX9_hoursUntilUnlocked cX9_hoursUntilUnlocked 3 (some .int))) := gV u_841 u_842 u_843 u_21 u_844
theorem hdv_X9_hoursUntilUnlocked : yX9_hoursUntilUnlocked.cls = RX9 ∧ yX9_hoursUntilUnlocked.cls ≠ "java/lang/invoke/MethodHandle" ∧ yX9_hoursUntilUnlocked.cls ≠ "java/lang/invoke/VarHandle" ∧ (parseMethodDescriptor yX9_hoursUntilUnlocked.desc).map (fun d => d.parameters.length) = some 1 := by decide +kernel
theorem dL_hoursUntilUnlocked_6 : decode cL_hoursUntilUnlocked 6 = .ok (.astore_n 2, 1) := by decide +kernel
theorem dL_hoursUntilUnlocked_7 : decode cL_hoursUntilUnlocked 7 = .ok (.ldc 17, 2) := by decide +kernel
theorem dL_hoursUntilUnlocked_9 : decode cL_hoursUntilUnlocked 9 = .ok (.ireturn, 1) := by decide +kernel
theorem dL_hoursUntilUnlocked_10 : decode cL_hoursUntilUnlocked 10 = .ok (.astore_n 2, 1) := by decide +kernel
theorem dL_hoursUntilUnlocked_11 : decode cL_hoursUntilUnlocked 11 = .ok (.ldc 20, 2) := by decide +kernel
theorem dL_hoursUntilUnlocked_13 : decode cL_hoursUntilUnlocked 13 = .ok (.ireturn, 1) := by decide +kernel
theorem dL_hoursUntilUnlocked_5 : decode cL_hoursUntilUnlocked 5 = .ok (.ireturn, 1) := by decide +kernel
set_option maxHeartbeats 8000000 in
set_option maxRecDepth 100000 in
set_option linter.constructorNameAsVariable false in
theorem c_L_hoursUntilUnlocked (l : Launch) (hlf : l.stackTraces = false) (G : GG) (qh0 : Nat) (q_snapshot : Nat) (q_history : Nat) (q_program : Nat) (q_notice : Nat) (va : Nat → Nat) (sz : Nat) (q : McV) (v : StV) (x : Int32) (hok : ok_L_hoursUntilUnlocked q v x) : wMetH l yL_hoursUntilUnlocked cL_hoursUntilUnlocked 3 (some .int) [(0, 5, 6, 25), (0, 5, 10, 39)] 10 2 12 G (fl [[(qh0, .inr (11, [.ref (va 0), .ref q_snapshot, .int q.1, .ref q_history, .ref q_program, .ref q_notice, .int q.2.1, .int q.2.2]))], wSt G va v]) [.ref qh0, .int x] sz (fun u : Int32 => some (.int u)) (fun u : Int32 => u = f_L_hoursUntilUnlocked q v x) (fun u : Int32 => fl [[(qh0, .inr (11, [.ref (va 0), .ref q_snapshot, .int q.1, .ref q_history, .ref q_program, .ref q_notice, .int q.2.1, .int q.2.2]))], wSt G va v]) := by
  refine w_startH (by decide +kernel) (Nat.le_of_ble_eq_true rfl) ?_
  intro p e s m below meth c A hx hb hr hml hts hown hlk hin hxt hP hD hA hK hST ls hl
  have hS : va_S A s.heap s.heap [] := va_S.rf
  have hown : s.vm.findClass RL = some m.cls := hown
  have hl : lv_has ls 3 [(0, .ref qh0), (1, .int x)] := hl
  have hF : f_L_hoursUntilUnlocked q v x = (if (f_X9_hoursUntilUnlocked q v x).1 = "" then (f_X9_hoursUntilUnlocked q v x).2 else (if (f_X9_hoursUntilUnlocked q v x).1 = "java/lang/IndexOutOfBoundsException" then (-900001 : Int32) else (if (f_X9_hoursUntilUnlocked q v x).1 = "java/util/NoSuchElementException" then (-900002 : Int32) else 0))) := rfl
  have hok : (if (f_X9_hoursUntilUnlocked q v x).1 = "" then True else (if (f_X9_hoursUntilUnlocked q v x).1 = "java/lang/IndexOutOfBoundsException" then True else (if (f_X9_hoursUntilUnlocked q v x).1 = "java/util/NoSuchElementException" then True else False))) := hok
  refine lv_aload_n hx hb dL_hoursUntilUnlocked_0 rfl (lv_at hl 0 rfl) ?_
  refine lv_iload_n hx hb dL_hoursUntilUnlocked_1 rfl (lv_at hl 1 rfl) ?_
  refine xr_V (own := RL) (v := (some (.int ((f_X9_hoursUntilUnlocked q v x).2)))) (st1 := [.int ((f_X9_hoursUntilUnlocked q v x).2)]) (As := [.int x]) (rest := []) (c_X9_hoursUntilUnlockedS l hlf G qh0 q_snapshot q_history q_program q_notice va q v x) ⟨hx, hb, hml, hown, hts⟩ g_L_70 hdv_X9_hoursUntilUnlocked hK hST hS hP [0, 1, 2, 3, 4, 5, 6, 7, 8, 9, 10, 11, 12, 13, 14, 15, 16, 17, 18, 19, 20] rfl (k0 := 0) rfl rfl rfl ⟨Nat.le_of_ble_eq_true rfl, Nat.le_of_ble_eq_true rfl⟩ ⟨Nat.le_of_ble_eq_true rfl, Nat.le_of_ble_eq_true rfl⟩ rfl hl.1 rfl (Nat.le_of_ble_eq_true rfl) dL_hoursUntilUnlocked_2 rfl (fun E ce q9 H hE h1 h2 h3 h4 h5 => ?_) (fun b_1 => ?_)
  · have hF := hF.trans (if_neg (fun e => hE.2 (hE.1.trans e)))
    have hok := Eq.mp (if_neg (fun e => hE.2 (hE.1.trans e))) hok
    have hP := hP.kept (fun k q hk => h2 q.1 ((hP k q hk).lt))
    have hS : va_S A s.heap H _ := ⟨Nat.le_trans hS.1 h1, fun q hq hA => (h2 q (Nat.lt_of_lt_of_le hq hS.1)).trans (hS.2.1 q hq hA), hS.2.2⟩
    by_cases c_2 : (f_X9_hoursUntilUnlocked q v x).1 = "java/lang/IndexOutOfBoundsException"
    · have hF := hF.trans (if_pos c_2)
      have hok := Eq.mp (if_pos c_2) hok
      have hEE : E = "java/lang/IndexOutOfBoundsException" := hE.1.trans c_2
      subst hEE
      refine vx_catch (own := RL) (name := "java/lang/IndexOutOfBoundsException") hown [] (⟨0, 5, 6, 25⟩ : ExceptionTableEntry) [(⟨0, 5, 10, 39⟩ : ExceptionTableEntry)] (hxt.trans rfl) (fun z hz => nomatch hz) (by decide) (by decide) (hts _ u_578) (va_tabs rfl rfl (hST.2.2.2.2.2.2.2.1 _ cst_IndexOutOfBoundsException)) h3 h4 h5 ?_
      refine W.eq (g2 := F0 m 6 ls [.ref q9]) rfl ?_
      refine lv_astore_n (lv' := [(2, .ref q9), (0, .ref qh0), (1, .int x)]) hx hb dL_hoursUntilUnlocked_6 rfl hl (by decide) rfl (fun ls hl => ?_)
      refine lv_ldc hx hb hown (hts _ u_704) dL_hoursUntilUnlocked_7 ?_
      exact w_ret (u := (-900001 : Int32)) hx hb hr hlk rfl hS rfl hF.symm hP hD (Nat.le_of_ble_eq_true rfl) (Nat.le_of_ble_eq_true rfl) dL_hoursUntilUnlocked_9
    · have hF := hF.trans (if_neg c_2)
      have hok := Eq.mp (if_neg c_2) hok
      by_cases c_3 : (f_X9_hoursUntilUnlocked q v x).1 = "java/util/NoSuchElementException"
      · have hF := hF.trans (if_pos c_3)
        have hok := Eq.mp (if_pos c_3) hok
        have hEE : E = "java/util/NoSuchElementException" := hE.1.trans c_3
        subst hEE
        refine vx_catch (own := RL) (name := "java/util/NoSuchElementException") hown [(⟨0, 5, 6, 25⟩ : ExceptionTableEntry)] (⟨0, 5, 10, 39⟩ : ExceptionTableEntry) [] (hxt.trans rfl) (List.forall_mem_cons.mpr ⟨Or.inr ⟨by decide, "java/lang/IndexOutOfBoundsException", hts _ u_578, hST.2.2.2.2.2.2.2.2.1 ("java/util/NoSuchElementException", "java/lang/IndexOutOfBoundsException") (by decide +kernel)⟩, fun _ h => nomatch h⟩) (by decide) (by decide) (hts _ u_840) (va_tabs rfl rfl (hST.2.2.2.2.2.2.2.1 _ cst_NoSuchElementException)) h3 h4 h5 ?_
        refine W.eq (g2 := F0 m 10 ls [.ref q9]) rfl ?_
        refine lv_astore_n (lv' := [(2, .ref q9), (0, .ref qh0), (1, .int x)]) hx hb dL_hoursUntilUnlocked_10 rfl hl (by decide) rfl (fun ls hl => ?_)
        refine lv_ldc hx hb hown (hts _ u_705) dL_hoursUntilUnlocked_11 ?_
        exact w_ret (u := (-900002 : Int32)) hx hb hr hlk rfl hS rfl hF.symm hP hD (Nat.le_of_ble_eq_true rfl) (Nat.le_of_ble_eq_true rfl) dL_hoursUntilUnlocked_13
      · have hF := hF.trans (if_neg c_3)
        have hok := Eq.mp (if_neg c_3) hok
        exact hok.elim
  · have hE := b_1.1
    have b_1 := b_1.2
    have hF := hF.trans (if_pos hE)
    have hok := Eq.mp (if_pos hE) hok
    exact w_ret (u := (f_X9_hoursUntilUnlocked q v x).2) hx hb hr hlk rfl hS rfl hF.symm hP hD (Nat.le_of_ble_eq_true rfl) (Nat.le_of_ble_eq_true rfl) dL_hoursUntilUnlocked_5
theorem dL_hoursUntilUnlockedByDays_0 : decode cL_hoursUntilUnlockedByDays 0 = .ok (.aload_n 0, 1) := by decide +kernel
theorem dL_hoursUntilUnlockedByDays_1 : decode cL_hoursUntilUnlockedByDays 1 = .ok (.iload_n 1, 1) := by decide +kernel
theorem dL_hoursUntilUnlockedByDays_2 : decode cL_hoursUntilUnlockedByDays 2 = .ok (.invokevirtual 73, 3) := by decide +kernel
theorem u_1544 : Cond.methodLink RL 73 yX9_hoursUntilUnlockedByDays ∈ UW := uw 1544 (by decide +kernel) rfl
theorem u_1545 : Cond.instanceMethod yX9_hoursUntilUnlockedByDays ∈ UW := uw 1545 (by decide +kernel) rfl
theorem u_1546 : Cond.selects RX9 yX9_hoursUntilUnlockedByDays yX9_hoursUntilUnlockedByDays ∈ UW := uw 1546 (by decide +kernel) rfl
theorem u_1547 : Cond.code yX9_hoursUntilUnlockedByDays cX9_hoursUntilUnlockedByDays 3 (some .int) ∈ UW := uw 1547 (by decide +kernel) rfl
theorem g_L_73 : GoodIn UW (wsV RL 73 RX9 yX9_hoursUntilUnlockedByDays (wsU yX9_hoursUntilUnlockedByDays cX9_hoursUntilUnlockedByDays 3 (some .int))) := gV u_1544 u_1545 u_1546 u_21 u_1547
theorem hdv_X9_hoursUntilUnlockedByDays : yX9_hoursUntilUnlockedByDays.cls = RX9 ∧ yX9_hoursUntilUnlockedByDays.cls ≠ "java/lang/invoke/MethodHandle" ∧ yX9_hoursUntilUnlockedByDays.cls ≠ "java/lang/invoke/VarHandle" ∧ (parseMethodDescriptor yX9_hoursUntilUnlockedByDays.desc).map (fun d => d.parameters.length) = some 1 := by decide +kernel
theorem dL_hoursUntilUnlockedByDays_6 : decode cL_hoursUntilUnlockedByDays 6 = .ok (.astore_n 2, 1) := by decide +kernel
theorem dL_hoursUntilUnlockedByDays_7 : decode cL_hoursUntilUnlockedByDays 7 = .ok (.ldc 17, 2) := by decide +kernel
theorem dL_hoursUntilUnlockedByDays_9 : decode cL_hoursUntilUnlockedByDays 9 = .ok (.ireturn, 1) := by decide +kernel
theorem dL_hoursUntilUnlockedByDays_10 : decode cL_hoursUntilUnlockedByDays 10 = .ok (.astore_n 2, 1) := by decide +kernel
theorem dL_hoursUntilUnlockedByDays_11 : decode cL_hoursUntilUnlockedByDays 11 = .ok (.ldc 20, 2) := by decide +kernel
theorem dL_hoursUntilUnlockedByDays_13 : decode cL_hoursUntilUnlockedByDays 13 = .ok (.ireturn, 1) := by decide +kernel
theorem dL_hoursUntilUnlockedByDays_5 : decode cL_hoursUntilUnlockedByDays 5 = .ok (.ireturn, 1) := by decide +kernel
set_option maxHeartbeats 8000000 in
set_option maxRecDepth 100000 in
set_option linter.constructorNameAsVariable false in
theorem c_L_hoursUntilUnlockedByDays (l : Launch) (hlf : l.stackTraces = false) (G : GG) (qh0 : Nat) (q_snapshot : Nat) (q_history : Nat) (q_program : Nat) (q_notice : Nat) (va : Nat → Nat) (sz : Nat) (q : McV) (v : StV) (x : Int32) (hok : ok_L_hoursUntilUnlockedByDays q v x) : wMetH l yL_hoursUntilUnlockedByDays cL_hoursUntilUnlockedByDays 3 (some .int) [(0, 5, 6, 25), (0, 5, 10, 39)] 10 2 12 G (fl [[(qh0, .inr (11, [.ref (va 0), .ref q_snapshot, .int q.1, .ref q_history, .ref q_program, .ref q_notice, .int q.2.1, .int q.2.2]))], wSt G va v]) [.ref qh0, .int x] sz (fun u : Int32 => some (.int u)) (fun u : Int32 => u = f_L_hoursUntilUnlockedByDays q v x) (fun u : Int32 => fl [[(qh0, .inr (11, [.ref (va 0), .ref q_snapshot, .int q.1, .ref q_history, .ref q_program, .ref q_notice, .int q.2.1, .int q.2.2]))], wSt G va v]) := by
  refine w_startH (by decide +kernel) (Nat.le_of_ble_eq_true rfl) ?_
  intro p e s m below meth c A hx hb hr hml hts hown hlk hin hxt hP hD hA hK hST ls hl
  have hS : va_S A s.heap s.heap [] := va_S.rf
  have hown : s.vm.findClass RL = some m.cls := hown
  have hl : lv_has ls 3 [(0, .ref qh0), (1, .int x)] := hl
  have hF : f_L_hoursUntilUnlockedByDays q v x = (if (f_X9_hoursUntilUnlockedByDays q v x).1 = "" then (f_X9_hoursUntilUnlockedByDays q v x).2 else (if (f_X9_hoursUntilUnlockedByDays q v x).1 = "java/lang/IndexOutOfBoundsException" then (-900001 : Int32) else (if (f_X9_hoursUntilUnlockedByDays q v x).1 = "java/util/NoSuchElementException" then (-900002 : Int32) else 0))) := rfl
  have hok : (if (f_X9_hoursUntilUnlockedByDays q v x).1 = "" then True else (if (f_X9_hoursUntilUnlockedByDays q v x).1 = "java/lang/IndexOutOfBoundsException" then True else (if (f_X9_hoursUntilUnlockedByDays q v x).1 = "java/util/NoSuchElementException" then True else False))) := hok
  refine lv_aload_n hx hb dL_hoursUntilUnlockedByDays_0 rfl (lv_at hl 0 rfl) ?_
  refine lv_iload_n hx hb dL_hoursUntilUnlockedByDays_1 rfl (lv_at hl 1 rfl) ?_
  refine xr_V (own := RL) (v := (some (.int ((f_X9_hoursUntilUnlockedByDays q v x).2)))) (st1 := [.int ((f_X9_hoursUntilUnlockedByDays q v x).2)]) (As := [.int x]) (rest := []) (c_X9_hoursUntilUnlockedByDaysS l hlf G qh0 q_snapshot q_history q_program q_notice va q v x) ⟨hx, hb, hml, hown, hts⟩ g_L_73 hdv_X9_hoursUntilUnlockedByDays hK hST hS hP [0, 1, 2, 3, 4, 5, 6, 7, 8, 9, 10, 11, 12, 13, 14, 15, 16, 17, 18, 19, 20] rfl (k0 := 0) rfl rfl rfl ⟨Nat.le_of_ble_eq_true rfl, Nat.le_of_ble_eq_true rfl⟩ ⟨Nat.le_of_ble_eq_true rfl, Nat.le_of_ble_eq_true rfl⟩ rfl hl.1 rfl (Nat.le_of_ble_eq_true rfl) dL_hoursUntilUnlockedByDays_2 rfl (fun E ce q9 H hE h1 h2 h3 h4 h5 => ?_) (fun b_1 => ?_)
  · have hF := hF.trans (if_neg (fun e => hE.2 (hE.1.trans e)))
    have hok := Eq.mp (if_neg (fun e => hE.2 (hE.1.trans e))) hok
    have hP := hP.kept (fun k q hk => h2 q.1 ((hP k q hk).lt))
    have hS : va_S A s.heap H _ := ⟨Nat.le_trans hS.1 h1, fun q hq hA => (h2 q (Nat.lt_of_lt_of_le hq hS.1)).trans (hS.2.1 q hq hA), hS.2.2⟩
    by_cases c_2 : (f_X9_hoursUntilUnlockedByDays q v x).1 = "java/lang/IndexOutOfBoundsException"
    · have hF := hF.trans (if_pos c_2)
      have hok := Eq.mp (if_pos c_2) hok
      have hEE : E = "java/lang/IndexOutOfBoundsException" := hE.1.trans c_2
      subst hEE
      refine vx_catch (own := RL) (name := "java/lang/IndexOutOfBoundsException") hown [] (⟨0, 5, 6, 25⟩ : ExceptionTableEntry) [(⟨0, 5, 10, 39⟩ : ExceptionTableEntry)] (hxt.trans rfl) (fun z hz => nomatch hz) (by decide) (by decide) (hts _ u_578) (va_tabs rfl rfl (hST.2.2.2.2.2.2.2.1 _ cst_IndexOutOfBoundsException)) h3 h4 h5 ?_
      refine W.eq (g2 := F0 m 6 ls [.ref q9]) rfl ?_
      refine lv_astore_n (lv' := [(2, .ref q9), (0, .ref qh0), (1, .int x)]) hx hb dL_hoursUntilUnlockedByDays_6 rfl hl (by decide) rfl (fun ls hl => ?_)
      refine lv_ldc hx hb hown (hts _ u_704) dL_hoursUntilUnlockedByDays_7 ?_
      exact w_ret (u := (-900001 : Int32)) hx hb hr hlk rfl hS rfl hF.symm hP hD (Nat.le_of_ble_eq_true rfl) (Nat.le_of_ble_eq_true rfl) dL_hoursUntilUnlockedByDays_9
    · have hF := hF.trans (if_neg c_2)
      have hok := Eq.mp (if_neg c_2) hok
      by_cases c_3 : (f_X9_hoursUntilUnlockedByDays q v x).1 = "java/util/NoSuchElementException"
      · have hF := hF.trans (if_pos c_3)
        have hok := Eq.mp (if_pos c_3) hok
        have hEE : E = "java/util/NoSuchElementException" := hE.1.trans c_3
        subst hEE
        refine vx_catch (own := RL) (name := "java/util/NoSuchElementException") hown [(⟨0, 5, 6, 25⟩ : ExceptionTableEntry)] (⟨0, 5, 10, 39⟩ : ExceptionTableEntry) [] (hxt.trans rfl) (List.forall_mem_cons.mpr ⟨Or.inr ⟨by decide, "java/lang/IndexOutOfBoundsException", hts _ u_578, hST.2.2.2.2.2.2.2.2.1 ("java/util/NoSuchElementException", "java/lang/IndexOutOfBoundsException") (by decide +kernel)⟩, fun _ h => nomatch h⟩) (by decide) (by decide) (hts _ u_840) (va_tabs rfl rfl (hST.2.2.2.2.2.2.2.1 _ cst_NoSuchElementException)) h3 h4 h5 ?_
        refine W.eq (g2 := F0 m 10 ls [.ref q9]) rfl ?_
        refine lv_astore_n (lv' := [(2, .ref q9), (0, .ref qh0), (1, .int x)]) hx hb dL_hoursUntilUnlockedByDays_10 rfl hl (by decide) rfl (fun ls hl => ?_)
        refine lv_ldc hx hb hown (hts _ u_705) dL_hoursUntilUnlockedByDays_11 ?_
        exact w_ret (u := (-900002 : Int32)) hx hb hr hlk rfl hS rfl hF.symm hP hD (Nat.le_of_ble_eq_true rfl) (Nat.le_of_ble_eq_true rfl) dL_hoursUntilUnlockedByDays_13
      · have hF := hF.trans (if_neg c_3)
        have hok := Eq.mp (if_neg c_3) hok
        exact hok.elim
  · have hE := b_1.1
    have b_1 := b_1.2
    have hF := hF.trans (if_pos hE)
    have hok := Eq.mp (if_pos hE) hok
    exact w_ret (u := (f_X9_hoursUntilUnlockedByDays q v x).2) hx hb hr hlk rfl hS rfl hF.symm hP hD (Nat.le_of_ble_eq_true rfl) (Nat.le_of_ble_eq_true rfl) dL_hoursUntilUnlockedByDays_5
theorem dL_unlockedHours_0 : decode cL_unlockedHours 0 = .ok (.aload_n 0, 1) := by decide +kernel
theorem dL_unlockedHours_1 : decode cL_unlockedHours 1 = .ok (.iload_n 1, 1) := by decide +kernel
theorem dL_unlockedHours_2 : decode cL_unlockedHours 2 = .ok (.iload_n 2, 1) := by decide +kernel
theorem dL_unlockedHours_3 : decode cL_unlockedHours 3 = .ok (.invokevirtual 76, 3) := by decide +kernel
theorem u_857 : Cond.methodLink RL 76 yX9_unlockedHours ∈ UW := uw 857 (by decide +kernel) rfl
theorem u_858 : Cond.instanceMethod yX9_unlockedHours ∈ UW := uw 858 (by decide +kernel) rfl
theorem u_859 : Cond.selects RX9 yX9_unlockedHours yX9_unlockedHours ∈ UW := uw 859 (by decide +kernel) rfl
theorem u_860 : Cond.code yX9_unlockedHours cX9_unlockedHours 3 (some .int) ∈ UW := uw 860 (by decide +kernel) rfl
theorem g_L_76 : GoodIn UW (wsV RL 76 RX9 yX9_unlockedHours (wsU yX9_unlockedHours cX9_unlockedHours 3 (some .int))) := gV u_857 u_858 u_859 u_21 u_860
theorem hdv_X9_unlockedHours : yX9_unlockedHours.cls = RX9 ∧ yX9_unlockedHours.cls ≠ "java/lang/invoke/MethodHandle" ∧ yX9_unlockedHours.cls ≠ "java/lang/invoke/VarHandle" ∧ (parseMethodDescriptor yX9_unlockedHours.desc).map (fun d => d.parameters.length) = some 2 := by decide +kernel
theorem dL_unlockedHours_7 : decode cL_unlockedHours 7 = .ok (.astore_n 3, 1) := by decide +kernel
theorem dL_unlockedHours_8 : decode cL_unlockedHours 8 = .ok (.ldc 17, 2) := by decide +kernel
theorem dL_unlockedHours_10 : decode cL_unlockedHours 10 = .ok (.ireturn, 1) := by decide +kernel
theorem dL_unlockedHours_11 : decode cL_unlockedHours 11 = .ok (.astore_n 3, 1) := by decide +kernel
theorem dL_unlockedHours_12 : decode cL_unlockedHours 12 = .ok (.ldc 20, 2) := by decide +kernel
theorem dL_unlockedHours_14 : decode cL_unlockedHours 14 = .ok (.ireturn, 1) := by decide +kernel
theorem dL_unlockedHours_6 : decode cL_unlockedHours 6 = .ok (.ireturn, 1) := by decide +kernel
set_option maxHeartbeats 8000000 in
set_option maxRecDepth 100000 in
set_option linter.constructorNameAsVariable false in
theorem c_L_unlockedHours (l : Launch) (hlf : l.stackTraces = false) (G : GG) (qh0 : Nat) (q_snapshot : Nat) (q_history : Nat) (q_program : Nat) (q_notice : Nat) (va : Nat → Nat) (sz : Nat) (q : McV) (v : StV) (x : Int32) (y : Int32) (hok : ok_L_unlockedHours q v x y) : wMetH l yL_unlockedHours cL_unlockedHours 4 (some .int) [(0, 6, 7, 25), (0, 6, 11, 15)] 10 2 12 G (fl [[(qh0, .inr (11, [.ref (va 0), .ref q_snapshot, .int q.1, .ref q_history, .ref q_program, .ref q_notice, .int q.2.1, .int q.2.2]))], wSt G va v]) [.ref qh0, .int x, .int y] sz (fun u : Int32 => some (.int u)) (fun u : Int32 => u = f_L_unlockedHours q v x y) (fun u : Int32 => fl [[(qh0, .inr (11, [.ref (va 0), .ref q_snapshot, .int q.1, .ref q_history, .ref q_program, .ref q_notice, .int q.2.1, .int q.2.2]))], wSt G va v]) := by
  refine w_startH (by decide +kernel) (Nat.le_of_ble_eq_true rfl) ?_
  intro p e s m below meth c A hx hb hr hml hts hown hlk hin hxt hP hD hA hK hST ls hl
  have hS : va_S A s.heap s.heap [] := va_S.rf
  have hown : s.vm.findClass RL = some m.cls := hown
  have hl : lv_has ls 4 [(0, .ref qh0), (1, .int x), (2, .int y)] := hl
  have hF : f_L_unlockedHours q v x y = (if (f_X9_unlockedHours q v x y).1 = "" then (f_X9_unlockedHours q v x y).2 else (if (f_X9_unlockedHours q v x y).1 = "java/lang/IndexOutOfBoundsException" then (-900001 : Int32) else (if (f_X9_unlockedHours q v x y).1 = "java/lang/IllegalArgumentException" then (-900002 : Int32) else 0))) := rfl
  have hok : (if (f_X9_unlockedHours q v x y).1 = "" then True else (if (f_X9_unlockedHours q v x y).1 = "java/lang/IndexOutOfBoundsException" then True else (if (f_X9_unlockedHours q v x y).1 = "java/lang/IllegalArgumentException" then True else False))) := hok
  refine lv_aload_n hx hb dL_unlockedHours_0 rfl (lv_at hl 0 rfl) ?_
  refine lv_iload_n hx hb dL_unlockedHours_1 rfl (lv_at hl 1 rfl) ?_
  refine lv_iload_n hx hb dL_unlockedHours_2 rfl (lv_at hl 2 rfl) ?_
  refine xr_V (own := RL) (v := (some (.int ((f_X9_unlockedHours q v x y).2)))) (st1 := [.int ((f_X9_unlockedHours q v x y).2)]) (As := [.int x, .int y]) (rest := []) (c_X9_unlockedHoursS l hlf G qh0 q_snapshot q_history q_program q_notice va q v x y) ⟨hx, hb, hml, hown, hts⟩ g_L_76 hdv_X9_unlockedHours hK hST hS hP [0, 1, 2, 3, 4, 5, 6, 7, 8, 9, 10, 11, 12, 13, 14, 15, 16, 17, 18, 19, 20] rfl (k0 := 0) rfl rfl rfl ⟨Nat.le_of_ble_eq_true rfl, Nat.le_of_ble_eq_true rfl⟩ ⟨Nat.le_of_ble_eq_true rfl, Nat.le_of_ble_eq_true rfl⟩ rfl hl.1 rfl (Nat.le_of_ble_eq_true rfl) dL_unlockedHours_3 rfl (fun E ce q9 H hE h1 h2 h3 h4 h5 => ?_) (fun b_1 => ?_)
  · have hF := hF.trans (if_neg (fun e => hE.2 (hE.1.trans e)))
    have hok := Eq.mp (if_neg (fun e => hE.2 (hE.1.trans e))) hok
    have hP := hP.kept (fun k q hk => h2 q.1 ((hP k q hk).lt))
    have hS : va_S A s.heap H _ := ⟨Nat.le_trans hS.1 h1, fun q hq hA => (h2 q (Nat.lt_of_lt_of_le hq hS.1)).trans (hS.2.1 q hq hA), hS.2.2⟩
    by_cases c_2 : (f_X9_unlockedHours q v x y).1 = "java/lang/IndexOutOfBoundsException"
    · have hF := hF.trans (if_pos c_2)
      have hok := Eq.mp (if_pos c_2) hok
      have hEE : E = "java/lang/IndexOutOfBoundsException" := hE.1.trans c_2
      subst hEE
      refine vx_catch (own := RL) (name := "java/lang/IndexOutOfBoundsException") hown [] (⟨0, 6, 7, 25⟩ : ExceptionTableEntry) [(⟨0, 6, 11, 15⟩ : ExceptionTableEntry)] (hxt.trans rfl) (fun z hz => nomatch hz) (by decide) (by decide) (hts _ u_578) (va_tabs rfl rfl (hST.2.2.2.2.2.2.2.1 _ cst_IndexOutOfBoundsException)) h3 h4 h5 ?_
      refine W.eq (g2 := F0 m 7 ls [.ref q9]) rfl ?_
      refine lv_astore_n (lv' := [(3, .ref q9), (0, .ref qh0), (1, .int x), (2, .int y)]) hx hb dL_unlockedHours_7 rfl hl (by decide) rfl (fun ls hl => ?_)
      refine lv_ldc hx hb hown (hts _ u_704) dL_unlockedHours_8 ?_
      exact w_ret (u := (-900001 : Int32)) hx hb hr hlk rfl hS rfl hF.symm hP hD (Nat.le_of_ble_eq_true rfl) (Nat.le_of_ble_eq_true rfl) dL_unlockedHours_10
    · have hF := hF.trans (if_neg c_2)
      have hok := Eq.mp (if_neg c_2) hok
      by_cases c_3 : (f_X9_unlockedHours q v x y).1 = "java/lang/IllegalArgumentException"
      · have hF := hF.trans (if_pos c_3)
        have hok := Eq.mp (if_pos c_3) hok
        have hEE : E = "java/lang/IllegalArgumentException" := hE.1.trans c_3
        subst hEE
        refine vx_catch (own := RL) (name := "java/lang/IllegalArgumentException") hown [(⟨0, 6, 7, 25⟩ : ExceptionTableEntry)] (⟨0, 6, 11, 15⟩ : ExceptionTableEntry) [] (hxt.trans rfl) (List.forall_mem_cons.mpr ⟨Or.inr ⟨by decide, "java/lang/IndexOutOfBoundsException", hts _ u_578, hST.2.2.2.2.2.2.2.2.1 ("java/lang/IllegalArgumentException", "java/lang/IndexOutOfBoundsException") (by decide +kernel)⟩, fun _ h => nomatch h⟩) (by decide) (by decide) (hts _ u_581) (va_tabs rfl rfl (hST.2.2.2.2.2.2.2.1 _ cst_IllegalArgumentException)) h3 h4 h5 ?_
        refine W.eq (g2 := F0 m 11 ls [.ref q9]) rfl ?_
        refine lv_astore_n (lv' := [(3, .ref q9), (0, .ref qh0), (1, .int x), (2, .int y)]) hx hb dL_unlockedHours_11 rfl hl (by decide) rfl (fun ls hl => ?_)
        refine lv_ldc hx hb hown (hts _ u_705) dL_unlockedHours_12 ?_
        exact w_ret (u := (-900002 : Int32)) hx hb hr hlk rfl hS rfl hF.symm hP hD (Nat.le_of_ble_eq_true rfl) (Nat.le_of_ble_eq_true rfl) dL_unlockedHours_14
      · have hF := hF.trans (if_neg c_3)
        have hok := Eq.mp (if_neg c_3) hok
        exact hok.elim
  · have hE := b_1.1
    have b_1 := b_1.2
    have hF := hF.trans (if_pos hE)
    have hok := Eq.mp (if_pos hE) hok
    exact w_ret (u := (f_X9_unlockedHours q v x y).2) hx hb hr hlk rfl hS rfl hF.symm hP hD (Nat.le_of_ble_eq_true rfl) (Nat.le_of_ble_eq_true rfl) dL_unlockedHours_6
