theorem dL_cell_0 : decode cL_cell 0 = .ok (.ldc 7, 2) := by decide +kernel
theorem u_919 : Cond.constant RL 7 (69069) ∈ UW := uw 919 (by decide +kernel) rfl
theorem dL_cell_2 : decode cL_cell 2 = .ok (.iload_n 1, 1) := by decide +kernel
theorem dL_cell_3 : decode cL_cell 3 = .ok (.aload_n 0, 1) := by decide +kernel
theorem dL_cell_4 : decode cL_cell 4 = .ok (.arraylength, 1) := by decide +kernel
theorem dL_cell_5 : decode cL_cell 5 = .ok (.if_icmp .ge 9, 3) := by decide +kernel
theorem dL_cell_14 : decode cL_cell 14 = .ok (.iconst 0, 1) := by decide +kernel
theorem dL_cell_15 : decode cL_cell 15 = .ok (.sipush 1009, 3) := by decide +kernel
theorem dL_cell_18 : decode cL_cell 18 = .ok (.iload_n 1, 1) := by decide +kernel
theorem dL_cell_19 : decode cL_cell 19 = .ok (.imul, 1) := by decide +kernel
theorem dL_cell_20 : decode cL_cell 20 = .ok (.iadd, 1) := by decide +kernel
theorem dL_cell_21 : decode cL_cell 21 = .ok (.imul, 1) := by decide +kernel
theorem dL_cell_22 : decode cL_cell 22 = .ok (.sipush 12345, 3) := by decide +kernel
theorem dL_cell_25 : decode cL_cell 25 = .ok (.iadd, 1) := by decide +kernel
theorem dL_cell_26 : decode cL_cell 26 = .ok (.istore_n 2, 1) := by decide +kernel
theorem dL_cell_27 : decode cL_cell 27 = .ok (.iload_n 2, 1) := by decide +kernel
theorem dL_cell_28 : decode cL_cell 28 = .ok (.iload_n 2, 1) := by decide +kernel
theorem dL_cell_29 : decode cL_cell 29 = .ok (.bipush 13, 2) := by decide +kernel
theorem dL_cell_31 : decode cL_cell 31 = .ok (.iushr, 1) := by decide +kernel
theorem dL_cell_32 : decode cL_cell 32 = .ok (.ixor, 1) := by decide +kernel
theorem dL_cell_33 : decode cL_cell 33 = .ok (.ldc 8, 2) := by decide +kernel
theorem u_920 : Cond.constant RL 8 (1103515245) ∈ UW := uw 920 (by decide +kernel) rfl
theorem dL_cell_35 : decode cL_cell 35 = .ok (.imul, 1) := by decide +kernel
theorem dL_cell_36 : decode cL_cell 36 = .ok (.istore_n 2, 1) := by decide +kernel
theorem dL_cell_37 : decode cL_cell 37 = .ok (.iload_n 2, 1) := by decide +kernel
theorem dL_cell_38 : decode cL_cell 38 = .ok (.iload_n 2, 1) := by decide +kernel
theorem dL_cell_39 : decode cL_cell 39 = .ok (.bipush 16, 2) := by decide +kernel
theorem dL_cell_41 : decode cL_cell 41 = .ok (.iushr, 1) := by decide +kernel
theorem dL_cell_42 : decode cL_cell 42 = .ok (.ixor, 1) := by decide +kernel
theorem dL_cell_43 : decode cL_cell 43 = .ok (.ireturn, 1) := by decide +kernel
theorem dL_cell_8 : decode cL_cell 8 = .ok (.aload_n 0, 1) := by decide +kernel
theorem dL_cell_9 : decode cL_cell 9 = .ok (.iload_n 1, 1) := by decide +kernel
theorem dL_cell_10 : decode cL_cell 10 = .ok (.iaload, 1) := by decide +kernel
theorem dL_cell_11 : decode cL_cell 11 = .ok (.goto 4, 3) := by decide +kernel
set_option maxHeartbeats 4000000 in
set_option maxRecDepth 100000 in
theorem c_L_cell (l : Launch) (G : GG)  (i : Int32) (hok : ok_L_cell G i) : rMet l yL_cell cL_cell 3 (some .int) 1 G (fl []) [.ref (scB G), .int i] (some (.int (f_L_cell G i))) (True) := by
  refine r_start (by decide +kernel) (Nat.le_of_ble_eq_true rfl) ?_
  intro p e s m below meth c hx hb hr hml hts hown hlk hP hK hST ls hl
  have hS : va_S (fun _ => False) s.heap s.heap [] := va_S.rf
  have hown : s.vm.findClass RL = some m.cls := hown
  have hl : lv_has ls 3 [(0, .ref (scB G)), (1, .int i)] := hl
  have hF : f_L_cell G i = (if (nI (scL G)) ≤ i then ((((((69069 : Int32) * ((0 : Int32) + ((1009 : Int32) * i))) + (12345 : Int32)) ^^^ (((((69069 : Int32) * ((0 : Int32) + ((1009 : Int32) * i))) + (12345 : Int32))).toUInt32 >>> (((13 : Int32)).toUInt32 &&& Int32.toUInt32 31)).toInt32) * (1103515245 : Int32)) ^^^ (((((((69069 : Int32) * ((0 : Int32) + ((1009 : Int32) * i))) + (12345 : Int32)) ^^^ (((((69069 : Int32) * ((0 : Int32) + ((1009 : Int32) * i))) + (12345 : Int32))).toUInt32 >>> (((13 : Int32)).toUInt32 &&& Int32.toUInt32 31)).toInt32) * (1103515245 : Int32))).toUInt32 >>> (((16 : Int32)).toUInt32 &&& Int32.toUInt32 31)).toInt32) else ((((((69069 : Int32) * ((scX G i.toNatClampNeg) + ((1009 : Int32) * i))) + (12345 : Int32)) ^^^ (((((69069 : Int32) * ((scX G i.toNatClampNeg) + ((1009 : Int32) * i))) + (12345 : Int32))).toUInt32 >>> (((13 : Int32)).toUInt32 &&& Int32.toUInt32 31)).toInt32) * (1103515245 : Int32)) ^^^ (((((((69069 : Int32) * ((scX G i.toNatClampNeg) + ((1009 : Int32) * i))) + (12345 : Int32)) ^^^ (((((69069 : Int32) * ((scX G i.toNatClampNeg) + ((1009 : Int32) * i))) + (12345 : Int32))).toUInt32 >>> (((13 : Int32)).toUInt32 &&& Int32.toUInt32 31)).toInt32) * (1103515245 : Int32))).toUInt32 >>> (((16 : Int32)).toUInt32 &&& Int32.toUInt32 31)).toInt32)) := rfl
  have hok : (if (nI (scL G)) ≤ i then True else (vp_in i (scL G) ∧ True)) := hok
  refine lv_ldc hx hb hown (hts _ u_919) dL_cell_0 ?_
  refine lv_iload_n hx hb dL_cell_2 rfl (lv_at hl 1 rfl) ?_
  refine lv_aload_n hx hb dL_cell_3 rfl (lv_at hl 0 rfl) ?_
  refine va_tlen (v := (nI (scL G))) hx hb hST.scr.1 hS rfl dL_cell_4 ?_
  refine lv_icmp_ge (tgt := 14) hx hb dL_cell_5 (by decide) (fun c_1 => ?_) (fun c_1 => ?_)
  · have hF := hF.trans (if_pos c_1)
    have hok := Eq.mp (if_pos c_1) hok
    refine lv_iconst (v := (0 : Int32)) hx hb dL_cell_14 (by decide) ?_
    refine lv_sipush (v := (1009 : Int32)) hx hb dL_cell_15 (by decide) ?_
    refine lv_iload_n hx hb dL_cell_18 rfl (lv_at hl 1 rfl) ?_
    refine lv_imul hx hb dL_cell_19 ?_
    refine lv_iadd hx hb dL_cell_20 ?_
    refine lv_imul hx hb dL_cell_21 ?_
    refine lv_sipush (v := (12345 : Int32)) hx hb dL_cell_22 (by decide) ?_
    refine lv_iadd hx hb dL_cell_25 ?_
    refine lv_istore_n (lv' := [(2, .int (((69069 : Int32) * ((0 : Int32) + ((1009 : Int32) * i))) + (12345 : Int32))), (0, .ref (scB G)), (1, .int i)]) hx hb dL_cell_26 rfl hl (by decide) rfl (fun ls hl => ?_)
    refine lv_iload_n hx hb dL_cell_27 rfl (lv_at hl 0 rfl) ?_
    refine lv_iload_n hx hb dL_cell_28 rfl (lv_at hl 0 rfl) ?_
    refine lv_bipush (v := (13 : Int32)) hx hb dL_cell_29 (by decide) ?_
    refine lv_iushr hx hb dL_cell_31 rfl ?_
    refine lv_ixor hx hb dL_cell_32 ?_
    refine lv_ldc hx hb hown (hts _ u_920) dL_cell_33 ?_
    refine lv_imul hx hb dL_cell_35 ?_
    refine lv_istore_n (lv' := [(2, .int (((((69069 : Int32) * ((0 : Int32) + ((1009 : Int32) * i))) + (12345 : Int32)) ^^^ (((((69069 : Int32) * ((0 : Int32) + ((1009 : Int32) * i))) + (12345 : Int32))).toUInt32 >>> (((13 : Int32)).toUInt32 &&& Int32.toUInt32 31)).toInt32) * (1103515245 : Int32))), (0, .ref (scB G)), (1, .int i)]) hx hb dL_cell_36 rfl hl (by decide) rfl (fun ls hl => ?_)
    refine lv_iload_n hx hb dL_cell_37 rfl (lv_at hl 0 rfl) ?_
    refine lv_iload_n hx hb dL_cell_38 rfl (lv_at hl 0 rfl) ?_
    refine lv_bipush (v := (16 : Int32)) hx hb dL_cell_39 (by decide) ?_
    refine lv_iushr hx hb dL_cell_41 rfl ?_
    refine lv_ixor hx hb dL_cell_42 ?_
    exact r_ret hx hb hr hlk rfl (by rw [hF]) trivial dL_cell_43
  · have hF := hF.trans (if_neg c_1)
    have hok := Eq.mp (if_neg c_1) hok
    refine lv_aload_n hx hb dL_cell_8 rfl (lv_at hl 0 rfl) ?_
    refine lv_iload_n hx hb dL_cell_9 rfl (lv_at hl 1 rfl) ?_
    have h_2 := hok.1
    have hok := hok.2
    refine va_ti hx hb hST.scr.1 hS h_2 (v := .int (scX G i.toNatClampNeg)) rfl dL_cell_10 ?_
    refine lv_goto (tgt := 15) hx hb dL_cell_11 (by decide) ?_
    refine lv_sipush (v := (1009 : Int32)) hx hb dL_cell_15 (by decide) ?_
    refine lv_iload_n hx hb dL_cell_18 rfl (lv_at hl 1 rfl) ?_
    refine lv_imul hx hb dL_cell_19 ?_
    refine lv_iadd hx hb dL_cell_20 ?_
    refine lv_imul hx hb dL_cell_21 ?_
    refine lv_sipush (v := (12345 : Int32)) hx hb dL_cell_22 (by decide) ?_
    refine lv_iadd hx hb dL_cell_25 ?_
    refine lv_istore_n (lv' := [(2, .int (((69069 : Int32) * ((scX G i.toNatClampNeg) + ((1009 : Int32) * i))) + (12345 : Int32))), (0, .ref (scB G)), (1, .int i)]) hx hb dL_cell_26 rfl hl (by decide) rfl (fun ls hl => ?_)
    refine lv_iload_n hx hb dL_cell_27 rfl (lv_at hl 0 rfl) ?_
    refine lv_iload_n hx hb dL_cell_28 rfl (lv_at hl 0 rfl) ?_
    refine lv_bipush (v := (13 : Int32)) hx hb dL_cell_29 (by decide) ?_
    refine lv_iushr hx hb dL_cell_31 rfl ?_
    refine lv_ixor hx hb dL_cell_32 ?_
    refine lv_ldc hx hb hown (hts _ u_920) dL_cell_33 ?_
    refine lv_imul hx hb dL_cell_35 ?_
    refine lv_istore_n (lv' := [(2, .int (((((69069 : Int32) * ((scX G i.toNatClampNeg) + ((1009 : Int32) * i))) + (12345 : Int32)) ^^^ (((((69069 : Int32) * ((scX G i.toNatClampNeg) + ((1009 : Int32) * i))) + (12345 : Int32))).toUInt32 >>> (((13 : Int32)).toUInt32 &&& Int32.toUInt32 31)).toInt32) * (1103515245 : Int32))), (0, .ref (scB G)), (1, .int i)]) hx hb dL_cell_36 rfl hl (by decide) rfl (fun ls hl => ?_)
    refine lv_iload_n hx hb dL_cell_37 rfl (lv_at hl 0 rfl) ?_
    refine lv_iload_n hx hb dL_cell_38 rfl (lv_at hl 0 rfl) ?_
    refine lv_bipush (v := (16 : Int32)) hx hb dL_cell_39 (by decide) ?_
    refine lv_iushr hx hb dL_cell_41 rfl ?_
    refine lv_ixor hx hb dL_cell_42 ?_
    exact r_ret hx hb hr hlk rfl (by rw [hF]) trivial dL_cell_43
theorem dL_in_0 : decode cL_in 0 = .ok (.aload_n 0, 1) := by decide +kernel
theorem dL_in_1 : decode cL_in 1 = .ok (.iload_n 1, 1) := by decide +kernel
theorem dL_in_2 : decode cL_in 2 = .ok (.invokestatic 98, 3) := by decide +kernel
theorem u_916 : Cond.methodLink RL 98 yL_cell ∈ UW := uw 916 (by decide +kernel) rfl
theorem u_917 : Cond.static yL_cell ∈ UW := uw 917 (by decide +kernel) rfl
theorem u_20 : Cond.initialized RL ∈ UW := uw 20 (by decide +kernel) rfl
theorem u_918 : Cond.code yL_cell cL_cell 3 (some .int) ∈ UW := uw 918 (by decide +kernel) rfl
theorem g_L_98 : GoodIn UW (va_wsS RL 98 yL_cell (wsU yL_cell cL_cell 3 (some .int))) := gS u_916 u_917 u_20 u_918
theorem hds_L_cell : yL_cell.cls ≠ "java/lang/invoke/MethodHandle" ∧ yL_cell.cls ≠ "java/lang/invoke/VarHandle" ∧ (parseMethodDescriptor yL_cell.desc).map (fun d => d.parameters.length) = some 2 := by decide +kernel
theorem dL_in_5 : decode cL_in 5 = .ok (.ldc 104, 2) := by decide +kernel
theorem u_921 : Cond.constant RL 104 (2147483647) ∈ UW := uw 921 (by decide +kernel) rfl
theorem dL_in_7 : decode cL_in 7 = .ok (.iand, 1) := by decide +kernel
theorem dL_in_8 : decode cL_in 8 = .ok (.iload_n 2, 1) := by decide +kernel
theorem dL_in_9 : decode cL_in 9 = .ok (.irem, 1) := by decide +kernel
theorem dL_in_10 : decode cL_in 10 = .ok (.ireturn, 1) := by decide +kernel
set_option maxHeartbeats 4000000 in
set_option maxRecDepth 100000 in
theorem c_L_in (l : Launch) (G : GG)  (i : Int32) (j : Int32) (hok : ok_L_in G i j) (hyp_j : ¬ j = 0) : rMet l yL_in cL_in 3 (some .int) 2 G (fl []) [.ref (scB G), .int i, .int j] (some (.int (f_L_in G i j))) (True) := by
  refine r_start (by decide +kernel) (Nat.le_of_ble_eq_true rfl) ?_
  intro p e s m below meth c hx hb hr hml hts hown hlk hP hK hST ls hl
  have hS : va_S (fun _ => False) s.heap s.heap [] := va_S.rf
  have hown : s.vm.findClass RL = some m.cls := hown
  have hl : lv_has ls 3 [(0, .ref (scB G)), (1, .int i), (2, .int j)] := hl
  have hF : f_L_in G i j = (((f_L_cell G i) &&& (2147483647 : Int32)) - ((f_L_cell G i) &&& (2147483647 : Int32)) / j * j) := rfl
  have hok : (ok_L_cell G i ∧ (¬ j = 0 ∧ True)) := hok
  refine lv_aload_n hx hb dL_in_0 rfl (lv_at hl 0 rfl) ?_
  refine lv_iload_n hx hb dL_in_1 rfl (lv_at hl 1 rfl) ?_
  have k_1 := hok.1
  have hok := hok.2
  refine r_S (own := RL) (v := (some (.int (f_L_cell G i)))) (st1 := [.int (f_L_cell G i)]) (As := [.ref (scB G), .int i]) (rest := []) (c_L_cell l G i k_1) ⟨hx, hb, hml, hown, hts⟩ g_L_98 hds_L_cell hK hST hS hP [] rfl ⟨Nat.le_of_ble_eq_true rfl, Nat.le_of_ble_eq_true rfl⟩ ⟨Nat.le_of_ble_eq_true rfl, Nat.le_of_ble_eq_true rfl⟩ rfl hl.1 rfl (Nat.le_of_ble_eq_true rfl) dL_in_2 rfl (fun b_2 => ?_)
  refine lv_ldc hx hb hown (hts _ u_921) dL_in_5 ?_
  refine lv_iand hx hb dL_in_7 ?_
  refine lv_iload_n hx hb dL_in_8 rfl (lv_at hl 2 rfl) ?_
  have h_3 := hok.1
  have hok := hok.2
  refine lv_irem hx hb dL_in_9 h_3 ?_
  exact r_ret hx hb hr hlk rfl (by rw [hF]) trivial dL_in_10
theorem dL_areAlike_0 : decode cL_areAlike 0 = .ok (.iconst 0, 1) := by decide +kernel
theorem dL_areAlike_1 : decode cL_areAlike 1 = .ok (.istore_n 2, 1) := by decide +kernel
theorem dL_areAlike_2 : decode cL_areAlike 2 = .ok (.iload_n 2, 1) := by decide +kernel
theorem dL_areAlike_3 : decode cL_areAlike 3 = .ok (.aload_n 0, 1) := by decide +kernel
theorem dL_areAlike_4 : decode cL_areAlike 4 = .ok (.arraylength, 1) := by decide +kernel
theorem dL_areAlike_5 : decode cL_areAlike 5 = .ok (.if_icmp .ge 20, 3) := by decide +kernel
theorem dL_areAlike_8 : decode cL_areAlike 8 = .ok (.aload_n 0, 1) := by decide +kernel
theorem dL_areAlike_9 : decode cL_areAlike 9 = .ok (.iload_n 2, 1) := by decide +kernel
theorem dL_areAlike_10 : decode cL_areAlike 10 = .ok (.iaload, 1) := by decide +kernel
theorem dL_areAlike_11 : decode cL_areAlike 11 = .ok (.aload_n 1, 1) := by decide +kernel
theorem dL_areAlike_12 : decode cL_areAlike 12 = .ok (.iload_n 2, 1) := by decide +kernel
theorem dL_areAlike_13 : decode cL_areAlike 13 = .ok (.iaload, 1) := by decide +kernel
theorem dL_areAlike_14 : decode cL_areAlike 14 = .ok (.if_icmp .eq 5, 3) := by decide +kernel
theorem dL_areAlike_19 : decode cL_areAlike 19 = .ok (.iinc 2 1, 3) := by decide +kernel
theorem dL_areAlike_22 : decode cL_areAlike 22 = .ok (.goto (-20), 3) := by decide +kernel
theorem dL_areAlike_25 : decode cL_areAlike 25 = .ok (.iconst 1, 1) := by decide +kernel
theorem dL_areAlike_26 : decode cL_areAlike 26 = .ok (.ireturn, 1) := by decide +kernel
set_option maxHeartbeats 4000000 in
set_option maxRecDepth 100000 in
theorem c_L_areAlike (l : Launch) (G : GG) (ah : Nat) (bh : Nat) (an : Nat) (a : Nat → Int32) (bn : Nat) (b : Nat → Int32) (hok : ok_L_areAlike an a bn b) (hyp_an : an < 2147483648) (hyp_bn : bn < 2147483648) : rMet l yL_areAlike cL_areAlike 3 (some .boolean) 1 G (fl [[cArr G ah an a], [cArr G bh bn b]]) [.ref ah, .ref bh] (some (.int (f_L_areAlike an a bn b))) (narrow .boolean (.int (f_L_areAlike an a bn b)) = .int (f_L_areAlike an a bn b)) := by
  refine r_start (by decide +kernel) (Nat.le_of_ble_eq_true rfl) ?_
  intro p e s m below meth c hx hb hr hml hts hown hlk hP hK hST ls hl
  have hS : va_S (fun _ => False) s.heap s.heap [] := va_S.rf
  have hown : s.vm.findClass RL = some m.cls := hown
  have hl : lv_has ls 3 [(0, .ref ah), (1, .ref bh)] := hl
  have hF : f_L_areAlike an a bn b = (let r_5 : Int32 := (lp_L_areAlike_2 an a bn b 261 (0 : Int32)); (1 : Int32)) := rfl
  have hok : (okl_lp_L_areAlike_2 an a bn b 261 (0 : Int32) ∧ True) := hok
  refine lv_iconst (v := (0 : Int32)) hx hb dL_areAlike_0 (by decide) ?_
  refine lv_istore_n (lv' := [(2, .int (0 : Int32)), (0, .ref ah), (1, .ref bh)]) hx hb dL_areAlike_1 rfl hl (by decide) rfl (fun ls hl => ?_)
  have hkI := hok.1
  have hok := hok.2
  have K2 : ∀ (r_5 : Int32), r_5 = (lp_L_areAlike_2 an a bn b 261 (0 : Int32)) → ∀ (ls : Array Slot), lv_has ls 3 [(2, .int r_5), (0, .ref ah), (1, .ref bh)] → W p l e (rmd 1 0 0) s m ([.ref ah, .ref bh] : List Value).toArray below meth c s.heap [] (0) (0) (MQ below (rQ (some (.int (f_L_areAlike an a bn b))) (narrow .boolean (.int (f_L_areAlike an a bn b)) = .int (f_L_areAlike an a bn b))) ([.ref ah, .ref bh] : List Value).toArray s 0 0 (fun _ => False)) (F0 m 25 ls []) := by
    intro r_5 er_5 ls hl
    have hF : f_L_areAlike an a bn b = (1 : Int32) := by subst er_5; exact hF
    refine lv_iconst (v := (1 : Int32)) hx hb dL_areAlike_25 (by decide) ?_
    exact r_ret hx hb hr hlk rfl (by rw [hF]) (by rw [hF]; exact (rfl : narrow .boolean (.int (1 : Int32)) = .int (1 : Int32))) dL_areAlike_26
  have L2 : ∀ (n : Nat) (x2 : Int32) (ls : Array Slot), lv_has ls 3 [(2, .int x2), (0, .ref ah), (1, .ref bh)] → (lp_L_areAlike_2 an a bn b 261 (0 : Int32)) = lp_L_areAlike_2 an a bn b n x2 → okl_lp_L_areAlike_2 an a bn b n x2 → W p l e (rmd 1 0 0) s m ([.ref ah, .ref bh] : List Value).toArray below meth c s.heap [] (0) (0) (MQ below (rQ (some (.int (f_L_areAlike an a bn b))) (narrow .boolean (.int (f_L_areAlike an a bn b)) = .int (f_L_areAlike an a bn b))) ([.ref ah, .ref bh] : List Value).toArray s 0 0 (fun _ => False)) (F0 m 2 ls []) := by
    intro n
    induction n with
    | zero => intro x2 ls hl hI hok; exact hok.elim
    | succ n ih =>
      intro x2 ls hl hI hok
      have hI : (lp_L_areAlike_2 an a bn b 261 (0 : Int32)) = (if (nI an) ≤ x2 then x2 else (if (a x2.toNatClampNeg) = (b x2.toNatClampNeg) then (lp_L_areAlike_2 an a bn b n (x2 + 1)) else x2)) := hI
      have hok : (if (nI an) ≤ x2 then True else (vp_in x2 an ∧ (vp_in x2 bn ∧ (if (a x2.toNatClampNeg) = (b x2.toNatClampNeg) then (okl_lp_L_areAlike_2 an a bn b n (x2 + 1)) else False)))) := hok
      refine lv_iload_n hx hb dL_areAlike_2 rfl (lv_at hl 0 rfl) ?_
      refine lv_aload_n hx hb dL_areAlike_3 rfl (lv_at hl 1 rfl) ?_
      refine va_alen (v := (nI an)) hx hb hK hP 0 0 rfl rfl rfl dL_areAlike_4 ?_
      refine lv_icmp_ge (tgt := 25) hx hb dL_areAlike_5 (by decide) (fun c_1 => ?_) (fun c_1 => ?_)
      · have hI := hI.trans (if_pos c_1)
        have hok := Eq.mp (if_pos c_1) hok
        exact K2 _ hI.symm ls (lv_sub hl [0, 1, 2] rfl)
      · have hI := hI.trans (if_neg c_1)
        have hok := Eq.mp (if_neg c_1) hok
        refine lv_aload_n hx hb dL_areAlike_8 rfl (lv_at hl 1 rfl) ?_
        refine lv_iload_n hx hb dL_areAlike_9 rfl (lv_at hl 0 rfl) ?_
        have h_2 := hok.1
        have hok := hok.2
        refine va_iald hx hb hK hP 0 0 rfl rfl h_2 dL_areAlike_10 ?_
        refine lv_aload_n hx hb dL_areAlike_11 rfl (lv_at hl 2 rfl) ?_
        refine lv_iload_n hx hb dL_areAlike_12 rfl (lv_at hl 0 rfl) ?_
        have h_3 := hok.1
        have hok := hok.2
        refine va_iald hx hb hK hP 1 0 rfl rfl h_3 dL_areAlike_13 ?_
        refine lv_icmp_eq (tgt := 19) hx hb dL_areAlike_14 (by decide) (fun c_4 => ?_) (fun c_4 => ?_)
        · have hI := hI.trans (if_pos c_4)
          have hok := Eq.mp (if_pos c_4) hok
          refine lv_iinc (v := (x2 + 1)) (lv' := [(2, .int (x2 + 1)), (0, .ref ah), (1, .ref bh)]) hx hb dL_areAlike_19 hl (k := 0) rfl rfl (by decide) rfl (fun ls hl => ?_)
          refine lv_goto (tgt := 2) hx hb dL_areAlike_22 (by decide) ?_
          exact ih (x2 + 1) ls (lv_sub hl [0, 1, 2] rfl) hI hok
        · have hI := hI.trans (if_neg c_4)
          have hok := Eq.mp (if_neg c_4) hok
          exact hok.elim
  exact L2 261 (0 : Int32) ls (lv_sub hl [0, 1, 2] rfl) rfl hkI
