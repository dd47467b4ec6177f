theorem dX5_holds_0 : decode cX5_holds 0 = .ok (.iload_n 1, 1) := by decide +kernel
theorem dX5_holds_1 : decode cX5_holds 1 = .ok (.ifCond .lt 15, 3) := by decide +kernel
theorem dX5_holds_16 : decode cX5_holds 16 = .ok (.iconst 0, 1) := by decide +kernel
theorem dX5_holds_17 : decode cX5_holds 17 = .ok (.ireturn, 1) := by decide +kernel
theorem dX5_holds_4 : decode cX5_holds 4 = .ok (.iload_n 1, 1) := by decide +kernel
theorem dX5_holds_5 : decode cX5_holds 5 = .ok (.aload_n 0, 1) := by decide +kernel
theorem dX5_holds_6 : decode cX5_holds 6 = .ok (.getfield 9, 3) := by decide +kernel
theorem uws_X5 : ∀ w ∈ wsX50, w ∈ UW := uw_all [988, 990, 992] (by decide +kernel) (by decide +kernel)
theorem u_984 : Cond.fieldLink RX5 9 "MoonlitDoors$Persons" "count" "I" ∈ UW := uw 984 (by decide +kernel) rfl
theorem dX5_holds_9 : decode cX5_holds 9 = .ok (.if_icmp .ge 7, 3) := by decide +kernel
theorem dX5_holds_12 : decode cX5_holds 12 = .ok (.iconst 1, 1) := by decide +kernel
theorem dX5_holds_13 : decode cX5_holds 13 = .ok (.goto 4, 3) := by decide +kernel
def f_X5_holds (d : PeV) (i : Int32) : Int32 := (if i < (0 : Int32) then (0 : Int32) else (if d.1 ≤ i then (0 : Int32) else (1 : Int32)))
set_option maxHeartbeats 4000000 in
set_option maxRecDepth 100000 in
theorem c_X5_holds (l : Launch) (G : GG) (dh0 : Nat) (dh1 : Nat) (dh2 : Nat) (d : PeV) (i : Int32) : rMet l yX5_holds cX5_holds 2 (some .boolean) 1 G (fl [wPe G dh0 dh1 dh2 d]) [.ref dh0, .int i] (some (.int (f_X5_holds d i))) (narrow .boolean (.int (f_X5_holds d i)) = .int (f_X5_holds d i)) := by
  refine r_start (by decide +kernel) (Nat.le_of_ble_eq_true rfl) ?_
  intro p e s m below meth c hx hb hr hml hts hown hlk hP hK hST ls hl
  have hS : va_S (fun _ => False) s.heap s.heap [] := va_S.rf
  have hown : s.vm.findClass RX5 = some m.cls := hown
  have hl : lv_has ls 2 [(0, .ref dh0), (1, .int i)] := hl
  have hF : f_X5_holds d i = (if i < (0 : Int32) then (0 : Int32) else (if d.1 ≤ i then (0 : Int32) else (1 : Int32))) := rfl
  refine lv_iload_n hx hb dX5_holds_0 rfl (lv_at hl 1 rfl) ?_
  refine lv_if_lt (tgt := 16) hx hb dX5_holds_1 (by decide) (fun c_1 => ?_) (fun c_1 => ?_)
  · have hF := hF.trans (if_pos c_1)
    refine lv_iconst (v := (0 : Int32)) hx hb dX5_holds_16 (by decide) ?_
    exact r_ret hx hb hr hlk rfl (by rw [hF]) (by rw [hF]; exact (rfl : narrow .boolean (.int (0 : Int32)) = .int (0 : Int32))) dX5_holds_17
  · have hF := hF.trans (if_neg c_1)
    refine lv_iload_n hx hb dX5_holds_4 rfl (lv_at hl 1 rfl) ?_
    refine lv_aload_n hx hb dX5_holds_5 rfl (lv_at hl 0 rfl) ?_
    refine va_get (D := G.1) (ci := 8) (v := .int d.1) (C := RX5) (T := TX5) (N := 3) hx hb hts uws_X5 hown hK hP 0 rfl rfl 0 (by decide) (hts _ u_984) (fun _ h9 => h9) rfl dX5_holds_6 ?_
    refine lv_icmp_ge (tgt := 16) hx hb dX5_holds_9 (by decide) (fun c_2 => ?_) (fun c_2 => ?_)
    · have hF := hF.trans (if_pos c_2)
      refine lv_iconst (v := (0 : Int32)) hx hb dX5_holds_16 (by decide) ?_
      exact r_ret hx hb hr hlk rfl (by rw [hF]) (by rw [hF]; exact (rfl : narrow .boolean (.int (0 : Int32)) = .int (0 : Int32))) dX5_holds_17
    · have hF := hF.trans (if_neg c_2)
      refine lv_iconst (v := (1 : Int32)) hx hb dX5_holds_12 (by decide) ?_
      refine lv_goto (tgt := 17) hx hb dX5_holds_13 (by decide) ?_
      exact r_ret hx hb hr hlk rfl (by rw [hF]) (by rw [hF]; exact (rfl : narrow .boolean (.int (1 : Int32)) = .int (1 : Int32))) dX5_holds_17
theorem dX5_append_0 : decode cX5_append 0 = .ok (.aload_n 0, 1) := by decide +kernel
theorem dX5_append_1 : decode cX5_append 1 = .ok (.getfield 9, 3) := by decide +kernel
theorem dX5_append_4 : decode cX5_append 4 = .ok (.istore_n 1, 1) := by decide +kernel
theorem dX5_append_5 : decode cX5_append 5 = .ok (.aload_n 0, 1) := by decide +kernel
theorem dX5_append_6 : decode cX5_append 6 = .ok (.dup, 1) := by decide +kernel
theorem dX5_append_7 : decode cX5_append 7 = .ok (.getfield 9, 3) := by decide +kernel
theorem dX5_append_10 : decode cX5_append 10 = .ok (.iconst 1, 1) := by decide +kernel
theorem dX5_append_11 : decode cX5_append 11 = .ok (.iadd, 1) := by decide +kernel
theorem dX5_append_12 : decode cX5_append 12 = .ok (.putfield 9, 3) := by decide +kernel
theorem dX5_append_15 : decode cX5_append 15 = .ok (.iload_n 1, 1) := by decide +kernel
theorem dX5_append_16 : decode cX5_append 16 = .ok (.ireturn, 1) := by decide +kernel
def f_X5_append (d : PeV) : Int32 × PeV := (d.1, ((d.1 + (1 : Int32)), d.2.1, d.2.2))
set_option maxHeartbeats 4000000 in
set_option maxRecDepth 100000 in
theorem c_X5_append (l : Launch) (G : GG) (dh0 : Nat) (dh1 : Nat) (dh2 : Nat) (sz : Nat) (d : PeV) : wMet l yX5_append cX5_append 2 (some .int) 1 0 0 G (fl [wPe G dh0 dh1 dh2 d]) [.ref dh0] sz (fun u : Int32 × PeV => some (.int u.1)) (fun u : Int32 × PeV => u = f_X5_append d) (fun u : Int32 × PeV => fl [wPe G dh0 dh1 dh2 u.2]) := by
  refine w_start (by decide +kernel) (Nat.le_of_ble_eq_true rfl) ?_
  intro p e s m below meth c A hx hb hr hml hts hown hlk hin hP hD hA hK hST ls hl
  have hS : va_S A s.heap s.heap [] := va_S.rf
  have hown : s.vm.findClass RX5 = some m.cls := hown
  have hl : lv_has ls 2 [(0, .ref dh0)] := hl
  have hF : f_X5_append d = (d.1, ((d.1 + (1 : Int32)), d.2.1, d.2.2)) := rfl
  refine lv_aload_n hx hb dX5_append_0 rfl (lv_at hl 0 rfl) ?_
  refine va_get (D := G.1) (ci := 8) (v := .int d.1) (C := RX5) (T := TX5) (N := 3) hx hb hts uws_X5 hown hK hP 0 rfl rfl 0 (by decide) (hts _ u_984) (fun _ h9 => h9) rfl dX5_append_1 ?_
  refine lv_istore_n (lv' := [(1, .int d.1), (0, .ref dh0)]) hx hb dX5_append_4 rfl hl (by decide) rfl (fun ls hl => ?_)
  refine lv_aload_n hx hb dX5_append_5 rfl (lv_at hl 1 rfl) ?_
  refine lv_dup hx hb dX5_append_6 rfl ?_
  refine va_get (D := G.1) (ci := 8) (v := .int d.1) (C := RX5) (T := TX5) (N := 3) hx hb hts uws_X5 hown hK hP 0 rfl rfl 0 (by decide) (hts _ u_984) (fun _ h9 => h9) rfl dX5_append_7 ?_
  refine lv_iconst (v := (1 : Int32)) hx hb dX5_append_10 (by decide) ?_
  refine lv_iadd hx hb dX5_append_11 ?_
  refine va_put (D := G.1) (ci := 8) (v := .int (d.1 + (1 : Int32))) (ty := .int) (C := RX5) (T := TX5) (N := 3) hx hb hts uws_X5 tyX5 tyX5_ok nmX5 hown hK hP hD hS 0 rfl rfl 0 (by decide) (hts _ u_984) (fun _ h9 => h9) rfl (by decide +kernel) rfl rfl (Nat.le_of_ble_eq_true rfl) dX5_append_12 (fun H locs hP hD hS => ?_)
  have hP : va_P G.1 vwCl (fl [wPe G dh0 dh1 dh2 ((d.1 + (1 : Int32)), d.2.1, d.2.2)]) H := hP
  have hD : va_D A (fl [wPe G dh0 dh1 dh2 ((d.1 + (1 : Int32)), d.2.1, d.2.2)]) := hD
  refine lv_iload_n hx hb dX5_append_15 rfl (lv_at hl 0 rfl) ?_
  exact w_ret (u := (d.1, ((d.1 + (1 : Int32)), d.2.1, d.2.2))) hx hb hr hlk rfl hS rfl hF.symm hP hD (Nat.le_of_ble_eq_true rfl) (Nat.le_of_ble_eq_true rfl) dX5_append_16
theorem dX5_ringContains_0 : decode cX5_ringContains 0 = .ok (.iload_n 2, 1) := by decide +kernel
theorem dX5_ringContains_1 : decode cX5_ringContains 1 = .ok (.ifCond .lt 29, 3) := by decide +kernel
theorem dX5_ringContains_30 : decode cX5_ringContains 30 = .ok (.iconst 0, 1) := by decide +kernel
theorem dX5_ringContains_31 : decode cX5_ringContains 31 = .ok (.ireturn, 1) := by decide +kernel
theorem dX5_ringContains_4 : decode cX5_ringContains 4 = .ok (.iload_n 2, 1) := by decide +kernel
theorem dX5_ringContains_5 : decode cX5_ringContains 5 = .ok (.bipush 8, 2) := by decide +kernel
theorem dX5_ringContains_7 : decode cX5_ringContains 7 = .ok (.if_icmp .ge 23, 3) := by decide +kernel
theorem dX5_ringContains_10 : decode cX5_ringContains 10 = .ok (.aload_n 0, 1) := by decide +kernel
theorem dX5_ringContains_11 : decode cX5_ringContains 11 = .ok (.getfield 15, 3) := by decide +kernel
theorem u_986 : Cond.fieldLink RX5 15 "MoonlitDoors$Persons" "rings" "[I" ∈ UW := uw 986 (by decide +kernel) rfl
theorem dX5_ringContains_14 : decode cX5_ringContains 14 = .ok (.iload_n 1, 1) := by decide +kernel
theorem dX5_ringContains_15 : decode cX5_ringContains 15 = .ok (.invokestatic 48, 3) := by decide +kernel
theorem u_751 : Cond.methodLink RX5 48 yX7_at ∈ UW := uw 751 (by decide +kernel) rfl
theorem g_X5_48 : GoodIn UW (va_wsS RX5 48 yX7_at (wsU yX7_at cX7_at 2 (some .int))) := gS u_751 u_505 u_43 u_506
theorem dX5_ringContains_18 : decode cX5_ringContains 18 = .ok (.iload_n 2, 1) := by decide +kernel
theorem dX5_ringContains_19 : decode cX5_ringContains 19 = .ok (.ishr, 1) := by decide +kernel
theorem dX5_ringContains_20 : decode cX5_ringContains 20 = .ok (.iconst 1, 1) := by decide +kernel
theorem dX5_ringContains_21 : decode cX5_ringContains 21 = .ok (.iand, 1) := by decide +kernel
theorem dX5_ringContains_22 : decode cX5_ringContains 22 = .ok (.iconst 1, 1) := by decide +kernel
theorem dX5_ringContains_23 : decode cX5_ringContains 23 = .ok (.if_icmp .ne 7, 3) := by decide +kernel
theorem dX5_ringContains_26 : decode cX5_ringContains 26 = .ok (.iconst 1, 1) := by decide +kernel
theorem dX5_ringContains_27 : decode cX5_ringContains 27 = .ok (.goto 4, 3) := by decide +kernel
def f_X5_ringContains (d : PeV) (i : Int32) (k : Int32) : Int32 := (if k < (0 : Int32) then (0 : Int32) else (if (8 : Int32) ≤ k then (0 : Int32) else (if (((f_X7_at 6 d.2.1 i) >>> (k &&& 31)) &&& (1 : Int32)) = (1 : Int32) then (1 : Int32) else (0 : Int32))))
set_option maxHeartbeats 4000000 in
set_option maxRecDepth 100000 in
theorem c_X5_ringContains (l : Launch) (G : GG) (dh0 : Nat) (dh1 : Nat) (dh2 : Nat) (d : PeV) (i : Int32) (k : Int32) : rMet l yX5_ringContains cX5_ringContains 3 (some .boolean) 2 G (fl [wPe G dh0 dh1 dh2 d]) [.ref dh0, .int i, .int k] (some (.int (f_X5_ringContains d i k))) (narrow .boolean (.int (f_X5_ringContains d i k)) = .int (f_X5_ringContains d i k)) := by
  refine r_start (by decide +kernel) (Nat.le_of_ble_eq_true rfl) ?_
  intro p e s m below meth c hx hb hr hml hts hown hlk hP hK hST ls hl
  have hS : va_S (fun _ => False) s.heap s.heap [] := va_S.rf
  have hown : s.vm.findClass RX5 = some m.cls := hown
  have hl : lv_has ls 3 [(0, .ref dh0), (1, .int i), (2, .int k)] := hl
  have hF : f_X5_ringContains d i k = (if k < (0 : Int32) then (0 : Int32) else (if (8 : Int32) ≤ k then (0 : Int32) else (if (((f_X7_at 6 d.2.1 i) >>> (k &&& 31)) &&& (1 : Int32)) = (1 : Int32) then (1 : Int32) else (0 : Int32)))) := rfl
  refine lv_iload_n hx hb dX5_ringContains_0 rfl (lv_at hl 2 rfl) ?_
  refine lv_if_lt (tgt := 30) hx hb dX5_ringContains_1 (by decide) (fun c_1 => ?_) (fun c_1 => ?_)
  · have hF := hF.trans (if_pos c_1)
    refine lv_iconst (v := (0 : Int32)) hx hb dX5_ringContains_30 (by decide) ?_
    exact r_ret hx hb hr hlk rfl (by rw [hF]) (by rw [hF]; exact (rfl : narrow .boolean (.int (0 : Int32)) = .int (0 : Int32))) dX5_ringContains_31
  · have hF := hF.trans (if_neg c_1)
    refine lv_iload_n hx hb dX5_ringContains_4 rfl (lv_at hl 2 rfl) ?_
    refine lv_bipush (v := (8 : Int32)) hx hb dX5_ringContains_5 (by decide) ?_
    refine lv_icmp_ge (tgt := 30) hx hb dX5_ringContains_7 (by decide) (fun c_2 => ?_) (fun c_2 => ?_)
    · have hF := hF.trans (if_pos c_2)
      refine lv_iconst (v := (0 : Int32)) hx hb dX5_ringContains_30 (by decide) ?_
      exact r_ret hx hb hr hlk rfl (by rw [hF]) (by rw [hF]; exact (rfl : narrow .boolean (.int (0 : Int32)) = .int (0 : Int32))) dX5_ringContains_31
    · have hF := hF.trans (if_neg c_2)
      refine lv_aload_n hx hb dX5_ringContains_10 rfl (lv_at hl 0 rfl) ?_
      refine va_get (D := G.1) (ci := 8) (v := .ref dh1) (C := RX5) (T := TX5) (N := 3) hx hb hts uws_X5 hown hK hP 0 rfl rfl 1 (by decide) (hts _ u_986) (fun _ h9 => h9) rfl dX5_ringContains_11 ?_
      refine lv_iload_n hx hb dX5_ringContains_14 rfl (lv_at hl 1 rfl) ?_
      refine r_S (own := RX5) (v := (some (.int (f_X7_at 6 d.2.1 i)))) (st1 := [.int (f_X7_at 6 d.2.1 i)]) (As := [.ref dh1, .int i]) (rest := []) (c_X7_at l G dh1 6 d.2.1 i (by decide)) ⟨hx, hb, hml, hown, hts⟩ g_X5_48 hds_X7_at hK hST hS hP [1] rfl ⟨Nat.le_of_ble_eq_true rfl, Nat.le_of_ble_eq_true rfl⟩ ⟨Nat.le_of_ble_eq_true rfl, Nat.le_of_ble_eq_true rfl⟩ rfl hl.1 rfl (Nat.le_of_ble_eq_true rfl) dX5_ringContains_15 rfl (fun b_3 => ?_)
      refine lv_iload_n hx hb dX5_ringContains_18 rfl (lv_at hl 2 rfl) ?_
      refine lv_ishr hx hb dX5_ringContains_19 ?_
      refine lv_iconst (v := (1 : Int32)) hx hb dX5_ringContains_20 (by decide) ?_
      refine lv_iand hx hb dX5_ringContains_21 ?_
      refine lv_iconst (v := (1 : Int32)) hx hb dX5_ringContains_22 (by decide) ?_
      refine lv_icmp_ne (tgt := 30) hx hb dX5_ringContains_23 (by decide) (fun c_4 => ?_) (fun c_4 => ?_)
      · have hF := hF.trans (if_neg c_4)
        refine lv_iconst (v := (0 : Int32)) hx hb dX5_ringContains_30 (by decide) ?_
        exact r_ret hx hb hr hlk rfl (by rw [hF]) (by rw [hF]; exact (rfl : narrow .boolean (.int (0 : Int32)) = .int (0 : Int32))) dX5_ringContains_31
      · have hF := hF.trans (if_pos c_4)
        refine lv_iconst (v := (1 : Int32)) hx hb dX5_ringContains_26 (by decide) ?_
        refine lv_goto (tgt := 31) hx hb dX5_ringContains_27 (by decide) ?_
        exact r_ret hx hb hr hlk rfl (by rw [hF]) (by rw [hF]; exact (rfl : narrow .boolean (.int (1 : Int32)) = .int (1 : Int32))) dX5_ringContains_31
theorem dX5_faultOfGiving_0 : decode cX5_faultOfGiving 0 = .ok (.aload_n 0, 1) := by decide +kernel
theorem dX5_faultOfGiving_1 : decode cX5_faultOfGiving 1 = .ok (.iload_n 1, 1) := by decide +kernel
theorem dX5_faultOfGiving_2 : decode cX5_faultOfGiving 2 = .ok (.invokevirtual 22, 3) := by decide +kernel
theorem u_1158 : Cond.methodLink RX5 22 yX5_holds ∈ UW := uw 1158 (by decide +kernel) rfl
theorem u_732 : Cond.instanceMethod yX5_holds ∈ UW := uw 732 (by decide +kernel) rfl
theorem u_733 : Cond.selects RX5 yX5_holds yX5_holds ∈ UW := uw 733 (by decide +kernel) rfl
theorem u_25 : Cond.initialized RX5 ∈ UW := uw 25 (by decide +kernel) rfl
theorem u_734 : Cond.code yX5_holds cX5_holds 2 (some .boolean) ∈ UW := uw 734 (by decide +kernel) rfl
theorem g_X5_22 : GoodIn UW (wsV RX5 22 RX5 yX5_holds (wsU yX5_holds cX5_holds 2 (some .boolean))) := gV u_1158 u_732 u_733 u_25 u_734
theorem hdv_X5_holds : yX5_holds.cls = RX5 ∧ yX5_holds.cls ≠ "java/lang/invoke/MethodHandle" ∧ yX5_holds.cls ≠ "java/lang/invoke/VarHandle" ∧ (parseMethodDescriptor yX5_holds.desc).map (fun d => d.parameters.length) = some 1 := by decide +kernel
theorem dX5_faultOfGiving_5 : decode cX5_faultOfGiving 5 = .ok (.ifCond .ne 7, 3) := by decide +kernel
theorem dX5_faultOfGiving_12 : decode cX5_faultOfGiving 12 = .ok (.iload_n 2, 1) := by decide +kernel
theorem dX5_faultOfGiving_13 : decode cX5_faultOfGiving 13 = .ok (.ifCond .lt 9, 3) := by decide +kernel
theorem dX5_faultOfGiving_22 : decode cX5_faultOfGiving 22 = .ok (.getstatic 32, 3) := by decide +kernel
theorem u_1160 : Cond.fieldLink RX5 32 "MoonlitDoors$Fault" "ARGUMENT" "LMoonlitDoors$Fault;" ∈ UW := uw 1160 (by decide +kernel) rfl
theorem dX5_faultOfGiving_25 : decode cX5_faultOfGiving 25 = .ok (.areturn, 1) := by decide +kernel
theorem dX5_faultOfGiving_16 : decode cX5_faultOfGiving 16 = .ok (.iload_n 2, 1) := by decide +kernel
theorem dX5_faultOfGiving_17 : decode cX5_faultOfGiving 17 = .ok (.bipush 8, 2) := by decide +kernel
theorem dX5_faultOfGiving_19 : decode cX5_faultOfGiving 19 = .ok (.if_icmp .lt 7, 3) := by decide +kernel
theorem dX5_faultOfGiving_26 : decode cX5_faultOfGiving 26 = .ok (.aload_n 0, 1) := by decide +kernel
theorem dX5_faultOfGiving_27 : decode cX5_faultOfGiving 27 = .ok (.iload_n 1, 1) := by decide +kernel
theorem dX5_faultOfGiving_28 : decode cX5_faultOfGiving 28 = .ok (.iload_n 2, 1) := by decide +kernel
theorem dX5_faultOfGiving_29 : decode cX5_faultOfGiving 29 = .ok (.invokevirtual 35, 3) := by decide +kernel
theorem u_1161 : Cond.methodLink RX5 35 yX5_ringContains ∈ UW := uw 1161 (by decide +kernel) rfl
theorem u_748 : Cond.instanceMethod yX5_ringContains ∈ UW := uw 748 (by decide +kernel) rfl
theorem u_749 : Cond.selects RX5 yX5_ringContains yX5_ringContains ∈ UW := uw 749 (by decide +kernel) rfl
theorem u_750 : Cond.code yX5_ringContains cX5_ringContains 3 (some .boolean) ∈ UW := uw 750 (by decide +kernel) rfl
theorem g_X5_35 : GoodIn UW (wsV RX5 35 RX5 yX5_ringContains (wsU yX5_ringContains cX5_ringContains 3 (some .boolean))) := gV u_1161 u_748 u_749 u_25 u_750
theorem hdv_X5_ringContains : yX5_ringContains.cls = RX5 ∧ yX5_ringContains.cls ≠ "java/lang/invoke/MethodHandle" ∧ yX5_ringContains.cls ≠ "java/lang/invoke/VarHandle" ∧ (parseMethodDescriptor yX5_ringContains.desc).map (fun d => d.parameters.length) = some 2 := by decide +kernel
theorem dX5_faultOfGiving_32 : decode cX5_faultOfGiving 32 = .ok (.ifCond .eq 9, 3) := by decide +kernel
theorem dX5_faultOfGiving_41 : decode cX5_faultOfGiving 41 = .ok (.getstatic 42, 3) := by decide +kernel
theorem u_1163 : Cond.fieldLink RX5 42 "MoonlitDoors$Fault" "NOTHING" "LMoonlitDoors$Fault;" ∈ UW := uw 1163 (by decide +kernel) rfl
theorem dX5_faultOfGiving_44 : decode cX5_faultOfGiving 44 = .ok (.areturn, 1) := by decide +kernel
theorem dX5_faultOfGiving_35 : decode cX5_faultOfGiving 35 = .ok (.getstatic 39, 3) := by decide +kernel
theorem u_1162 : Cond.fieldLink RX5 39 "MoonlitDoors$Fault" "STATE" "LMoonlitDoors$Fault;" ∈ UW := uw 1162 (by decide +kernel) rfl
theorem dX5_faultOfGiving_38 : decode cX5_faultOfGiving 38 = .ok (.goto 6, 3) := by decide +kernel
theorem dX5_faultOfGiving_8 : decode cX5_faultOfGiving 8 = .ok (.getstatic 26, 3) := by decide +kernel
theorem u_1159 : Cond.fieldLink RX5 26 "MoonlitDoors$Fault" "INDEX" "LMoonlitDoors$Fault;" ∈ UW := uw 1159 (by decide +kernel) rfl
theorem dX5_faultOfGiving_11 : decode cX5_faultOfGiving 11 = .ok (.areturn, 1) := by decide +kernel
def f_X5_faultOfGiving (d : PeV) (i : Int32) (k : Int32) : Nat := (if (f_X5_holds d i) = (0 : Int32) then 1 else (if k < (0 : Int32) then 2 else (if k < (8 : Int32) then (if (f_X5_ringContains d i k) = (0 : Int32) then 0 else 4) else 2)))
set_option maxHeartbeats 4000000 in
set_option maxRecDepth 100000 in
theorem c_X5_faultOfGiving (l : Launch) (G : GG) (dh0 : Nat) (dh1 : Nat) (dh2 : Nat) (d : PeV) (i : Int32) (k : Int32) : rMet l yX5_faultOfGiving cX5_faultOfGiving 3 (some (.object "MoonlitDoors$Fault")) 3 G (fl [wPe G dh0 dh1 dh2 d]) [.ref dh0, .int i, .int k] (some (.ref (G.2.2.1 (f_X5_faultOfGiving d i k)))) ((f_X5_faultOfGiving d i k) < 6) := by
  refine r_start (by decide +kernel) (Nat.le_of_ble_eq_true rfl) ?_
  intro p e s m below meth c hx hb hr hml hts hown hlk hP hK hST ls hl
  have hS : va_S (fun _ => False) s.heap s.heap [] := va_S.rf
  have hown : s.vm.findClass RX5 = some m.cls := hown
  have hl : lv_has ls 3 [(0, .ref dh0), (1, .int i), (2, .int k)] := hl
  have hF : f_X5_faultOfGiving d i k = (if (f_X5_holds d i) = (0 : Int32) then 1 else (if k < (0 : Int32) then 2 else (if k < (8 : Int32) then (if (f_X5_ringContains d i k) = (0 : Int32) then 0 else 4) else 2))) := rfl
  refine lv_aload_n hx hb dX5_faultOfGiving_0 rfl (lv_at hl 0 rfl) ?_
  refine lv_iload_n hx hb dX5_faultOfGiving_1 rfl (lv_at hl 1 rfl) ?_
  refine r_V (own := RX5) (v := (some (.int (f_X5_holds d i)))) (st1 := [.int (f_X5_holds d i)]) (As := [.int i]) (rest := []) (c_X5_holds l G dh0 dh1 dh2 d i) ⟨hx, hb, hml, hown, hts⟩ g_X5_22 hdv_X5_holds hK hST hS hP [0, 1, 2] rfl (k0 := 0) rfl rfl rfl ⟨Nat.le_of_ble_eq_true rfl, Nat.le_of_ble_eq_true rfl⟩ ⟨Nat.le_of_ble_eq_true rfl, Nat.le_of_ble_eq_true rfl⟩ rfl hl.1 rfl (Nat.le_of_ble_eq_true rfl) dX5_faultOfGiving_2 rfl (fun b_1 => ?_)
  refine lv_if_ne (tgt := 12) hx hb dX5_faultOfGiving_5 (by decide) (fun c_2 => ?_) (fun c_2 => ?_)
  · have hF := hF.trans (if_neg c_2)
    refine lv_iload_n hx hb dX5_faultOfGiving_12 rfl (lv_at hl 2 rfl) ?_
    refine lv_if_lt (tgt := 22) hx hb dX5_faultOfGiving_13 (by decide) (fun c_3 => ?_) (fun c_3 => ?_)
    · have hF := hF.trans (if_pos c_3)
      refine va_gets (C := RX3) (n := "ARGUMENT") (d := "LMoonlitDoors$Fault;") hx hb (hST.1 2 (by decide)) hS hown (hts _ u_1160) (fun _ h9 => h9) dX5_faultOfGiving_22 ?_
      exact r_retA hx hb hr hlk (Or.inl ⟨_, rfl⟩) (Or.inr ⟨_, rfl⟩) (by rw [hF]) (by rw [hF]; exact ((by decide) : 2 < 6)) dX5_faultOfGiving_25
    · have hF := hF.trans (if_neg c_3)
      refine lv_iload_n hx hb dX5_faultOfGiving_16 rfl (lv_at hl 2 rfl) ?_
      refine lv_bipush (v := (8 : Int32)) hx hb dX5_faultOfGiving_17 (by decide) ?_
      refine lv_icmp_lt (tgt := 26) hx hb dX5_faultOfGiving_19 (by decide) (fun c_4 => ?_) (fun c_4 => ?_)
      · have hF := hF.trans (if_pos c_4)
        refine lv_aload_n hx hb dX5_faultOfGiving_26 rfl (lv_at hl 0 rfl) ?_
        refine lv_iload_n hx hb dX5_faultOfGiving_27 rfl (lv_at hl 1 rfl) ?_
        refine lv_iload_n hx hb dX5_faultOfGiving_28 rfl (lv_at hl 2 rfl) ?_
        refine r_V (own := RX5) (v := (some (.int (f_X5_ringContains d i k)))) (st1 := [.int (f_X5_ringContains d i k)]) (As := [.int i, .int k]) (rest := []) (c_X5_ringContains l G dh0 dh1 dh2 d i k) ⟨hx, hb, hml, hown, hts⟩ g_X5_35 hdv_X5_ringContains hK hST hS hP [0, 1, 2] rfl (k0 := 0) rfl rfl rfl ⟨Nat.le_of_ble_eq_true rfl, Nat.le_of_ble_eq_true rfl⟩ ⟨Nat.le_of_ble_eq_true rfl, Nat.le_of_ble_eq_true rfl⟩ rfl hl.1 rfl (Nat.le_of_ble_eq_true rfl) dX5_faultOfGiving_29 rfl (fun b_5 => ?_)
        refine lv_if_eq (tgt := 41) hx hb dX5_faultOfGiving_32 (by decide) (fun c_6 => ?_) (fun c_6 => ?_)
        · have hF := hF.trans (if_pos c_6)
          refine va_gets (C := RX3) (n := "NOTHING") (d := "LMoonlitDoors$Fault;") hx hb (hST.1 0 (by decide)) hS hown (hts _ u_1163) (fun _ h9 => h9) dX5_faultOfGiving_41 ?_
          exact r_retA hx hb hr hlk (Or.inl ⟨_, rfl⟩) (Or.inr ⟨_, rfl⟩) (by rw [hF]) (by rw [hF]; exact ((by decide) : 0 < 6)) dX5_faultOfGiving_44
        · have hF := hF.trans (if_neg c_6)
          refine va_gets (C := RX3) (n := "STATE") (d := "LMoonlitDoors$Fault;") hx hb (hST.1 4 (by decide)) hS hown (hts _ u_1162) (fun _ h9 => h9) dX5_faultOfGiving_35 ?_
          refine lv_goto (tgt := 44) hx hb dX5_faultOfGiving_38 (by decide) ?_
          exact r_retA hx hb hr hlk (Or.inl ⟨_, rfl⟩) (Or.inr ⟨_, rfl⟩) (by rw [hF]) (by rw [hF]; exact ((by decide) : 4 < 6)) dX5_faultOfGiving_44
      · have hF := hF.trans (if_neg c_4)
        refine va_gets (C := RX3) (n := "ARGUMENT") (d := "LMoonlitDoors$Fault;") hx hb (hST.1 2 (by decide)) hS hown (hts _ u_1160) (fun _ h9 => h9) dX5_faultOfGiving_22 ?_
        exact r_retA hx hb hr hlk (Or.inl ⟨_, rfl⟩) (Or.inr ⟨_, rfl⟩) (by rw [hF]) (by rw [hF]; exact ((by decide) : 2 < 6)) dX5_faultOfGiving_25
  · have hF := hF.trans (if_pos c_2)
    refine va_gets (C := RX3) (n := "INDEX") (d := "LMoonlitDoors$Fault;") hx hb (hST.1 1 (by decide)) hS hown (hts _ u_1159) (fun _ h9 => h9) dX5_faultOfGiving_8 ?_
    exact r_retA hx hb hr hlk (Or.inl ⟨_, rfl⟩) (Or.inr ⟨_, rfl⟩) (by rw [hF]) (by rw [hF]; exact ((by decide) : 1 < 6)) dX5_faultOfGiving_11
theorem dX5_faultOfTaking_0 : decode cX5_faultOfTaking 0 = .ok (.aload_n 0, 1) := by decide +kernel
theorem dX5_faultOfTaking_1 : decode cX5_faultOfTaking 1 = .ok (.iload_n 1, 1) := by decide +kernel
theorem dX5_faultOfTaking_2 : decode cX5_faultOfTaking 2 = .ok (.invokevirtual 22, 3) := by decide +kernel
theorem dX5_faultOfTaking_5 : decode cX5_faultOfTaking 5 = .ok (.ifCond .ne 7, 3) := by decide +kernel
theorem dX5_faultOfTaking_12 : decode cX5_faultOfTaking 12 = .ok (.aload_n 0, 1) := by decide +kernel
theorem dX5_faultOfTaking_13 : decode cX5_faultOfTaking 13 = .ok (.iload_n 1, 1) := by decide +kernel
theorem dX5_faultOfTaking_14 : decode cX5_faultOfTaking 14 = .ok (.iload_n 2, 1) := by decide +kernel
theorem dX5_faultOfTaking_15 : decode cX5_faultOfTaking 15 = .ok (.invokevirtual 35, 3) := by decide +kernel
theorem dX5_faultOfTaking_18 : decode cX5_faultOfTaking 18 = .ok (.ifCond .eq 9, 3) := by decide +kernel
theorem dX5_faultOfTaking_27 : decode cX5_faultOfTaking 27 = .ok (.getstatic 45, 3) := by decide +kernel
theorem u_1245 : Cond.fieldLink RX5 45 "MoonlitDoors$Fault" "ELEMENT" "LMoonlitDoors$Fault;" ∈ UW := uw 1245 (by decide +kernel) rfl
theorem dX5_faultOfTaking_30 : decode cX5_faultOfTaking 30 = .ok (.areturn, 1) := by decide +kernel
theorem dX5_faultOfTaking_21 : decode cX5_faultOfTaking 21 = .ok (.getstatic 42, 3) := by decide +kernel
theorem dX5_faultOfTaking_24 : decode cX5_faultOfTaking 24 = .ok (.goto 6, 3) := by decide +kernel
theorem dX5_faultOfTaking_8 : decode cX5_faultOfTaking 8 = .ok (.getstatic 26, 3) := by decide +kernel
theorem dX5_faultOfTaking_11 : decode cX5_faultOfTaking 11 = .ok (.areturn, 1) := by decide +kernel
def f_X5_faultOfTaking (d : PeV) (i : Int32) (k : Int32) : Nat := (if (f_X5_holds d i) = (0 : Int32) then 1 else (if (f_X5_ringContains d i k) = (0 : Int32) then 5 else 0))
set_option maxHeartbeats 4000000 in
set_option maxRecDepth 100000 in
theorem c_X5_faultOfTaking (l : Launch) (G : GG) (dh0 : Nat) (dh1 : Nat) (dh2 : Nat) (d : PeV) (i : Int32) (k : Int32) : rMet l yX5_faultOfTaking cX5_faultOfTaking 3 (some (.object "MoonlitDoors$Fault")) 3 G (fl [wPe G dh0 dh1 dh2 d]) [.ref dh0, .int i, .int k] (some (.ref (G.2.2.1 (f_X5_faultOfTaking d i k)))) ((f_X5_faultOfTaking d i k) < 6) := by
  refine r_start (by decide +kernel) (Nat.le_of_ble_eq_true rfl) ?_
  intro p e s m below meth c hx hb hr hml hts hown hlk hP hK hST ls hl
  have hS : va_S (fun _ => False) s.heap s.heap [] := va_S.rf
  have hown : s.vm.findClass RX5 = some m.cls := hown
  have hl : lv_has ls 3 [(0, .ref dh0), (1, .int i), (2, .int k)] := hl
  have hF : f_X5_faultOfTaking d i k = (if (f_X5_holds d i) = (0 : Int32) then 1 else (if (f_X5_ringContains d i k) = (0 : Int32) then 5 else 0)) := rfl
  refine lv_aload_n hx hb dX5_faultOfTaking_0 rfl (lv_at hl 0 rfl) ?_
  refine lv_iload_n hx hb dX5_faultOfTaking_1 rfl (lv_at hl 1 rfl) ?_
  refine r_V (own := RX5) (v := (some (.int (f_X5_holds d i)))) (st1 := [.int (f_X5_holds d i)]) (As := [.int i]) (rest := []) (c_X5_holds l G dh0 dh1 dh2 d i) ⟨hx, hb, hml, hown, hts⟩ g_X5_22 hdv_X5_holds hK hST hS hP [0, 1, 2] rfl (k0 := 0) rfl rfl rfl ⟨Nat.le_of_ble_eq_true rfl, Nat.le_of_ble_eq_true rfl⟩ ⟨Nat.le_of_ble_eq_true rfl, Nat.le_of_ble_eq_true rfl⟩ rfl hl.1 rfl (Nat.le_of_ble_eq_true rfl) dX5_faultOfTaking_2 rfl (fun b_1 => ?_)
  refine lv_if_ne (tgt := 12) hx hb dX5_faultOfTaking_5 (by decide) (fun c_2 => ?_) (fun c_2 => ?_)
  · have hF := hF.trans (if_neg c_2)
    refine lv_aload_n hx hb dX5_faultOfTaking_12 rfl (lv_at hl 0 rfl) ?_
    refine lv_iload_n hx hb dX5_faultOfTaking_13 rfl (lv_at hl 1 rfl) ?_
    refine lv_iload_n hx hb dX5_faultOfTaking_14 rfl (lv_at hl 2 rfl) ?_
    refine r_V (own := RX5) (v := (some (.int (f_X5_ringContains d i k)))) (st1 := [.int (f_X5_ringContains d i k)]) (As := [.int i, .int k]) (rest := []) (c_X5_ringContains l G dh0 dh1 dh2 d i k) ⟨hx, hb, hml, hown, hts⟩ g_X5_35 hdv_X5_ringContains hK hST hS hP [0, 1, 2] rfl (k0 := 0) rfl rfl rfl ⟨Nat.le_of_ble_eq_true rfl, Nat.le_of_ble_eq_true rfl⟩ ⟨Nat.le_of_ble_eq_true rfl, Nat.le_of_ble_eq_true rfl⟩ rfl hl.1 rfl (Nat.le_of_ble_eq_true rfl) dX5_faultOfTaking_15 rfl (fun b_3 => ?_)
    refine lv_if_eq (tgt := 27) hx hb dX5_faultOfTaking_18 (by decide) (fun c_4 => ?_) (fun c_4 => ?_)
    · have hF := hF.trans (if_pos c_4)
      refine va_gets (C := RX3) (n := "ELEMENT") (d := "LMoonlitDoors$Fault;") hx hb (hST.1 5 (by decide)) hS hown (hts _ u_1245) (fun _ h9 => h9) dX5_faultOfTaking_27 ?_
      exact r_retA hx hb hr hlk (Or.inl ⟨_, rfl⟩) (Or.inr ⟨_, rfl⟩) (by rw [hF]) (by rw [hF]; exact ((by decide) : 5 < 6)) dX5_faultOfTaking_30
    · have hF := hF.trans (if_neg c_4)
      refine va_gets (C := RX3) (n := "NOTHING") (d := "LMoonlitDoors$Fault;") hx hb (hST.1 0 (by decide)) hS hown (hts _ u_1163) (fun _ h9 => h9) dX5_faultOfTaking_21 ?_
      refine lv_goto (tgt := 30) hx hb dX5_faultOfTaking_24 (by decide) ?_
      exact r_retA hx hb hr hlk (Or.inl ⟨_, rfl⟩) (Or.inr ⟨_, rfl⟩) (by rw [hF]) (by rw [hF]; exact ((by decide) : 0 < 6)) dX5_faultOfTaking_30
  · have hF := hF.trans (if_pos c_2)
    refine va_gets (C := RX3) (n := "INDEX") (d := "LMoonlitDoors$Fault;") hx hb (hST.1 1 (by decide)) hS hown (hts _ u_1159) (fun _ h9 => h9) dX5_faultOfTaking_8 ?_
    exact r_retA hx hb hr hlk (Or.inl ⟨_, rfl⟩) (Or.inr ⟨_, rfl⟩) (by rw [hF]) (by rw [hF]; exact ((by decide) : 1 < 6)) dX5_faultOfTaking_11
theorem dX5_give_0 : decode cX5_give 0 = .ok (.aload_n 0, 1) := by decide +kernel
theorem dX5_give_1 : decode cX5_give 1 = .ok (.getfield 15, 3) := by decide +kernel
theorem dX5_give_4 : decode cX5_give 4 = .ok (.iload_n 1, 1) := by decide +kernel
theorem dX5_give_5 : decode cX5_give 5 = .ok (.aload_n 0, 1) := by decide +kernel
theorem dX5_give_6 : decode cX5_give 6 = .ok (.getfield 15, 3) := by decide +kernel
theorem dX5_give_9 : decode cX5_give 9 = .ok (.iload_n 1, 1) := by decide +kernel
theorem dX5_give_10 : decode cX5_give 10 = .ok (.invokestatic 48, 3) := by decide +kernel
theorem dX5_give_13 : decode cX5_give 13 = .ok (.iconst 1, 1) := by decide +kernel
theorem dX5_give_14 : decode cX5_give 14 = .ok (.iload_n 2, 1) := by decide +kernel
theorem dX5_give_15 : decode cX5_give 15 = .ok (.ishl, 1) := by decide +kernel
theorem dX5_give_16 : decode cX5_give 16 = .ok (.ior, 1) := by decide +kernel
theorem dX5_give_17 : decode cX5_give 17 = .ok (.invokestatic 54, 3) := by decide +kernel
theorem u_1168 : Cond.methodLink RX5 54 yX7_put ∈ UW := uw 1168 (by decide +kernel) rfl
theorem g_X5_54 : GoodIn UW (va_wsS RX5 54 yX7_put (wsU yX7_put cX7_put 3 none)) := gS u_1168 u_702 u_43 u_703
theorem dX5_give_20 : decode cX5_give 20 = .ok (.aload_n 0, 1) := by decide +kernel
theorem dX5_give_21 : decode cX5_give 21 = .ok (.getfield 15, 3) := by decide +kernel
theorem dX5_give_24 : decode cX5_give 24 = .ok (.iload_n 1, 1) := by decide +kernel
theorem dX5_give_25 : decode cX5_give 25 = .ok (.invokestatic 48, 3) := by decide +kernel
theorem dX5_give_28 : decode cX5_give 28 = .ok (.invokestatic 58, 3) := by decide +kernel
theorem u_1169 : Cond.methodLink RX5 58 yJ6_bitCount_0f7a4 ∈ UW := uw 1169 (by decide +kernel) rfl
theorem u_1170 : Cond.static yJ6_bitCount_0f7a4 ∈ UW := uw 1170 (by decide +kernel) rfl
theorem u_47 : Cond.initialized RJ6 ∈ UW := uw 47 (by decide +kernel) rfl
theorem u_1171 : Cond.code yJ6_bitCount_0f7a4 cJ6_bitCount_0f7a4 1 (some .int) ∈ UW := uw 1171 (by decide +kernel) rfl
theorem g_X5_58 : GoodIn UW (va_wsS RX5 58 yJ6_bitCount_0f7a4 (wsU yJ6_bitCount_0f7a4 cJ6_bitCount_0f7a4 1 (some .int))) := gS u_1169 u_1170 u_47 u_1171
theorem hds_J6_bitCount_0f7a4 : yJ6_bitCount_0f7a4.cls ≠ "java/lang/invoke/MethodHandle" ∧ yJ6_bitCount_0f7a4.cls ≠ "java/lang/invoke/VarHandle" ∧ (parseMethodDescriptor yJ6_bitCount_0f7a4.desc).map (fun d => d.parameters.length) = some 1 := by decide +kernel
theorem dX5_give_31 : decode cX5_give 31 = .ok (.ireturn, 1) := by decide +kernel
def f_X5_give (d : PeV) (i : Int32) (k : Int32) : Int32 × PeV := (let u_3 : (Nat → Int32) := (f_X7_put 6 d.2.1 i ((f_X7_at 6 d.2.1 i) ||| ((1 : Int32) <<< (k &&& 31)))); ((f_J6_bitCount_0f7a4 (f_X7_at 6 u_3 i)), (d.1, u_3, d.2.2)))
set_option maxHeartbeats 4000000 in
set_option maxRecDepth 100000 in
theorem c_X5_give (l : Launch) (G : GG) (dh0 : Nat) (dh1 : Nat) (dh2 : Nat) (sz : Nat) (d : PeV) (i : Int32) (k : Int32) : wMet l yX5_give cX5_give 3 (some .int) 2 0 0 G (fl [wPe G dh0 dh1 dh2 d]) [.ref dh0, .int i, .int k] sz (fun u : Int32 × PeV => some (.int u.1)) (fun u : Int32 × PeV => u = f_X5_give d i k) (fun u : Int32 × PeV => fl [wPe G dh0 dh1 dh2 u.2]) := by
  refine w_start (by decide +kernel) (Nat.le_of_ble_eq_true rfl) ?_
  intro p e s m below meth c A hx hb hr hml hts hown hlk hin hP hD hA hK hST ls hl
  have hS : va_S A s.heap s.heap [] := va_S.rf
  have hown : s.vm.findClass RX5 = some m.cls := hown
  have hl : lv_has ls 3 [(0, .ref dh0), (1, .int i), (2, .int k)] := hl
  have hF : f_X5_give d i k = (let u_3 : (Nat → Int32) := (f_X7_put 6 d.2.1 i ((f_X7_at 6 d.2.1 i) ||| ((1 : Int32) <<< (k &&& 31)))); ((f_J6_bitCount_0f7a4 (f_X7_at 6 u_3 i)), (d.1, u_3, d.2.2))) := rfl
  refine lv_aload_n hx hb dX5_give_0 rfl (lv_at hl 0 rfl) ?_
  refine va_get (D := G.1) (ci := 8) (v := .ref dh1) (C := RX5) (T := TX5) (N := 3) hx hb hts uws_X5 hown hK hP 0 rfl rfl 1 (by decide) (hts _ u_986) (fun _ h9 => h9) rfl dX5_give_1 ?_
  refine lv_iload_n hx hb dX5_give_4 rfl (lv_at hl 1 rfl) ?_
  refine lv_aload_n hx hb dX5_give_5 rfl (lv_at hl 0 rfl) ?_
  refine va_get (D := G.1) (ci := 8) (v := .ref dh1) (C := RX5) (T := TX5) (N := 3) hx hb hts uws_X5 hown hK hP 0 rfl rfl 1 (by decide) (hts _ u_986) (fun _ h9 => h9) rfl dX5_give_6 ?_
  refine lv_iload_n hx hb dX5_give_9 rfl (lv_at hl 1 rfl) ?_
  refine r_S (own := RX5) (v := (some (.int (f_X7_at 6 d.2.1 i)))) (st1 := [.int (f_X7_at 6 d.2.1 i), .int i, .ref dh1]) (As := [.ref dh1, .int i]) (rest := [.int i, .ref dh1]) (c_X7_at l G dh1 6 d.2.1 i (by decide)) ⟨hx, hb, hml, hown, hts⟩ g_X5_48 hds_X7_at hK hST hS hP [1] rfl ⟨Nat.le_of_ble_eq_true rfl, Nat.le_of_ble_eq_true rfl⟩ ⟨Nat.le_of_ble_eq_true rfl, Nat.le_of_ble_eq_true rfl⟩ rfl hl.1 rfl (Nat.le_of_ble_eq_true rfl) dX5_give_10 rfl (fun b_1 => ?_)
  refine lv_iconst (v := (1 : Int32)) hx hb dX5_give_13 (by decide) ?_
  refine lv_iload_n hx hb dX5_give_14 rfl (lv_at hl 2 rfl) ?_
  refine lv_ishl hx hb dX5_give_15 ?_
  refine lv_ior hx hb dX5_give_16 ?_
  have hP : va_P G.1 vwCl (fl [[(dh0, .inr (8, [.int d.1, .ref dh1, .ref dh2]))], [cArr G dh1 6 d.2.1], [cArr G dh2 6 d.2.2]]) s.heap := hP
  have hD : va_D A (fl [[(dh0, .inr (8, [.int d.1, .ref dh1, .ref dh2]))], [cArr G dh1 6 d.2.1], [cArr G dh2 6 d.2.2]]) := hD
  refine w_S (own := RX5) (cs := [[cArr G dh1 6 d.2.1]]) (rs := [[(dh0, .inr (8, [.int d.1, .ref dh1, .ref dh2]))], [cArr G dh2 6 d.2.2]]) (As := [.ref dh1, .int i, .int ((f_X7_at 6 d.2.1 i) ||| ((1 : Int32) <<< (k &&& 31)))]) (rest := []) (c_X7_put l G dh1 s.heap.size 6 d.2.1 i ((f_X7_at 6 d.2.1 i) ||| ((1 : Int32) <<< (k &&& 31))) (by decide)) ⟨hx, hb, hml, hown, hts⟩ g_X5_54 hds_X7_put hK hST hS hP hD hA [1] [0, 2] rfl rfl rfl ⟨Nat.le_of_ble_eq_true rfl, Nat.le_of_ble_eq_true rfl⟩ ⟨Nat.le_of_ble_eq_true rfl, Nat.le_of_ble_eq_true rfl⟩ rfl hl.1 rfl (Nat.le_of_ble_eq_true rfl) dX5_give_17 (fun u_3 H locs huu hP hD hS => ?_)
  have eu_3 := huu
  have hP : va_P G.1 vwCl (fl [[cArr G dh1 6 u_3], [(dh0, .inr (8, [.int d.1, .ref dh1, .ref dh2]))], [cArr G dh2 6 d.2.2]]) H := hP
  have hD : va_D A (fl [[cArr G dh1 6 u_3], [(dh0, .inr (8, [.int d.1, .ref dh1, .ref dh2]))], [cArr G dh2 6 d.2.2]]) := hD
  refine W.eq (g2 := F0 m 20 ls []) rfl ?_
  have hF : f_X5_give d i k = ((f_J6_bitCount_0f7a4 (f_X7_at 6 u_3 i)), (d.1, u_3, d.2.2)) := by subst eu_3; exact hF
  refine lv_aload_n hx hb dX5_give_20 rfl (lv_at hl 0 rfl) ?_
  refine va_get (D := G.1) (ci := 8) (v := .ref dh1) (C := RX5) (T := TX5) (N := 3) hx hb hts uws_X5 hown hK hP 1 rfl rfl 1 (by decide) (hts _ u_986) (fun _ h9 => h9) rfl dX5_give_21 ?_
  refine lv_iload_n hx hb dX5_give_24 rfl (lv_at hl 1 rfl) ?_
  refine r_S (own := RX5) (v := (some (.int (f_X7_at 6 u_3 i)))) (st1 := [.int (f_X7_at 6 u_3 i)]) (As := [.ref dh1, .int i]) (rest := []) (c_X7_at l G dh1 6 u_3 i (by decide)) ⟨hx, hb, hml, hown, hts⟩ g_X5_48 hds_X7_at hK hST hS hP [0] rfl ⟨Nat.le_of_ble_eq_true rfl, Nat.le_of_ble_eq_true rfl⟩ ⟨Nat.le_of_ble_eq_true rfl, Nat.le_of_ble_eq_true rfl⟩ rfl hl.1 rfl (Nat.le_of_ble_eq_true rfl) dX5_give_25 rfl (fun b_4 => ?_)
  refine r_S (own := RX5) (v := (some (.int (f_J6_bitCount_0f7a4 (f_X7_at 6 u_3 i))))) (st1 := [.int (f_J6_bitCount_0f7a4 (f_X7_at 6 u_3 i))]) (As := [.int (f_X7_at 6 u_3 i)]) (rest := []) (c_J6_bitCount_0f7a4 l G (f_X7_at 6 u_3 i)) ⟨hx, hb, hml, hown, hts⟩ g_X5_58 hds_J6_bitCount_0f7a4 hK hST hS hP [] rfl ⟨Nat.le_of_ble_eq_true rfl, Nat.le_of_ble_eq_true rfl⟩ ⟨Nat.le_of_ble_eq_true rfl, Nat.le_of_ble_eq_true rfl⟩ rfl hl.1 rfl (Nat.le_of_ble_eq_true rfl) dX5_give_28 rfl (fun b_5 => ?_)
  have hP := fl_sub (cs := [[(dh0, .inr (8, [.int d.1, .ref dh1, .ref dh2]))], [cArr G dh1 6 u_3], [cArr G dh2 6 d.2.2]]) [1, 0, 2] rfl hP
  have hD := fl_subD (cs := [[(dh0, .inr (8, [.int d.1, .ref dh1, .ref dh2]))], [cArr G dh1 6 u_3], [cArr G dh2 6 d.2.2]]) [1, 0, 2] rfl rfl hD
  exact w_ret (u := ((f_J6_bitCount_0f7a4 (f_X7_at 6 u_3 i)), (d.1, u_3, d.2.2))) hx hb hr hlk rfl hS rfl hF.symm hP hD (Nat.le_of_ble_eq_true rfl) (Nat.le_of_ble_eq_true rfl) dX5_give_31
theorem dX5_take_0 : decode cX5_take 0 = .ok (.aload_n 0, 1) := by decide +kernel
theorem dX5_take_1 : decode cX5_take 1 = .ok (.getfield 15, 3) := by decide +kernel
theorem dX5_take_4 : decode cX5_take 4 = .ok (.iload_n 1, 1) := by decide +kernel
theorem dX5_take_5 : decode cX5_take 5 = .ok (.aload_n 0, 1) := by decide +kernel
theorem dX5_take_6 : decode cX5_take 6 = .ok (.getfield 15, 3) := by decide +kernel
theorem dX5_take_9 : decode cX5_take 9 = .ok (.iload_n 1, 1) := by decide +kernel
theorem dX5_take_10 : decode cX5_take 10 = .ok (.invokestatic 48, 3) := by decide +kernel
theorem dX5_take_13 : decode cX5_take 13 = .ok (.iconst 1, 1) := by decide +kernel
theorem dX5_take_14 : decode cX5_take 14 = .ok (.iload_n 2, 1) := by decide +kernel
theorem dX5_take_15 : decode cX5_take 15 = .ok (.ishl, 1) := by decide +kernel
theorem dX5_take_16 : decode cX5_take 16 = .ok (.iconst (-1), 1) := by decide +kernel
theorem dX5_take_17 : decode cX5_take 17 = .ok (.ixor, 1) := by decide +kernel
theorem dX5_take_18 : decode cX5_take 18 = .ok (.iand, 1) := by decide +kernel
theorem dX5_take_19 : decode cX5_take 19 = .ok (.invokestatic 54, 3) := by decide +kernel
theorem dX5_take_22 : decode cX5_take 22 = .ok (.aload_n 0, 1) := by decide +kernel
theorem dX5_take_23 : decode cX5_take 23 = .ok (.getfield 15, 3) := by decide +kernel
theorem dX5_take_26 : decode cX5_take 26 = .ok (.iload_n 1, 1) := by decide +kernel
theorem dX5_take_27 : decode cX5_take 27 = .ok (.invokestatic 48, 3) := by decide +kernel
theorem dX5_take_30 : decode cX5_take 30 = .ok (.invokestatic 58, 3) := by decide +kernel
theorem dX5_take_33 : decode cX5_take 33 = .ok (.ireturn, 1) := by decide +kernel
def f_X5_take (d : PeV) (i : Int32) (k : Int32) : Int32 × PeV := (let u_3 : (Nat → Int32) := (f_X7_put 6 d.2.1 i ((f_X7_at 6 d.2.1 i) &&& (((1 : Int32) <<< (k &&& 31)) ^^^ (-1 : Int32)))); ((f_J6_bitCount_0f7a4 (f_X7_at 6 u_3 i)), (d.1, u_3, d.2.2)))
set_option maxHeartbeats 4000000 in
set_option maxRecDepth 100000 in
theorem c_X5_take (l : Launch) (G : GG) (dh0 : Nat) (dh1 : Nat) (dh2 : Nat) (sz : Nat) (d : PeV) (i : Int32) (k : Int32) : wMet l yX5_take cX5_take 3 (some .int) 2 0 0 G (fl [wPe G dh0 dh1 dh2 d]) [.ref dh0, .int i, .int k] sz (fun u : Int32 × PeV => some (.int u.1)) (fun u : Int32 × PeV => u = f_X5_take d i k) (fun u : Int32 × PeV => fl [wPe G dh0 dh1 dh2 u.2]) := by
  refine w_start (by decide +kernel) (Nat.le_of_ble_eq_true rfl) ?_
  intro p e s m below meth c A hx hb hr hml hts hown hlk hin hP hD hA hK hST ls hl
  have hS : va_S A s.heap s.heap [] := va_S.rf
  have hown : s.vm.findClass RX5 = some m.cls := hown
  have hl : lv_has ls 3 [(0, .ref dh0), (1, .int i), (2, .int k)] := hl
  have hF : f_X5_take d i k = (let u_3 : (Nat → Int32) := (f_X7_put 6 d.2.1 i ((f_X7_at 6 d.2.1 i) &&& (((1 : Int32) <<< (k &&& 31)) ^^^ (-1 : Int32)))); ((f_J6_bitCount_0f7a4 (f_X7_at 6 u_3 i)), (d.1, u_3, d.2.2))) := rfl
  refine lv_aload_n hx hb dX5_take_0 rfl (lv_at hl 0 rfl) ?_
  refine va_get (D := G.1) (ci := 8) (v := .ref dh1) (C := RX5) (T := TX5) (N := 3) hx hb hts uws_X5 hown hK hP 0 rfl rfl 1 (by decide) (hts _ u_986) (fun _ h9 => h9) rfl dX5_take_1 ?_
  refine lv_iload_n hx hb dX5_take_4 rfl (lv_at hl 1 rfl) ?_
  refine lv_aload_n hx hb dX5_take_5 rfl (lv_at hl 0 rfl) ?_
  refine va_get (D := G.1) (ci := 8) (v := .ref dh1) (C := RX5) (T := TX5) (N := 3) hx hb hts uws_X5 hown hK hP 0 rfl rfl 1 (by decide) (hts _ u_986) (fun _ h9 => h9) rfl dX5_take_6 ?_
  refine lv_iload_n hx hb dX5_take_9 rfl (lv_at hl 1 rfl) ?_
  refine r_S (own := RX5) (v := (some (.int (f_X7_at 6 d.2.1 i)))) (st1 := [.int (f_X7_at 6 d.2.1 i), .int i, .ref dh1]) (As := [.ref dh1, .int i]) (rest := [.int i, .ref dh1]) (c_X7_at l G dh1 6 d.2.1 i (by decide)) ⟨hx, hb, hml, hown, hts⟩ g_X5_48 hds_X7_at hK hST hS hP [1] rfl ⟨Nat.le_of_ble_eq_true rfl, Nat.le_of_ble_eq_true rfl⟩ ⟨Nat.le_of_ble_eq_true rfl, Nat.le_of_ble_eq_true rfl⟩ rfl hl.1 rfl (Nat.le_of_ble_eq_true rfl) dX5_take_10 rfl (fun b_1 => ?_)
  refine lv_iconst (v := (1 : Int32)) hx hb dX5_take_13 (by decide) ?_
  refine lv_iload_n hx hb dX5_take_14 rfl (lv_at hl 2 rfl) ?_
  refine lv_ishl hx hb dX5_take_15 ?_
  refine lv_iconst (v := (-1 : Int32)) hx hb dX5_take_16 (by decide) ?_
  refine lv_ixor hx hb dX5_take_17 ?_
  refine lv_iand hx hb dX5_take_18 ?_
  have hP : va_P G.1 vwCl (fl [[(dh0, .inr (8, [.int d.1, .ref dh1, .ref dh2]))], [cArr G dh1 6 d.2.1], [cArr G dh2 6 d.2.2]]) s.heap := hP
  have hD : va_D A (fl [[(dh0, .inr (8, [.int d.1, .ref dh1, .ref dh2]))], [cArr G dh1 6 d.2.1], [cArr G dh2 6 d.2.2]]) := hD
  refine w_S (own := RX5) (cs := [[cArr G dh1 6 d.2.1]]) (rs := [[(dh0, .inr (8, [.int d.1, .ref dh1, .ref dh2]))], [cArr G dh2 6 d.2.2]]) (As := [.ref dh1, .int i, .int ((f_X7_at 6 d.2.1 i) &&& (((1 : Int32) <<< (k &&& 31)) ^^^ (-1 : Int32)))]) (rest := []) (c_X7_put l G dh1 s.heap.size 6 d.2.1 i ((f_X7_at 6 d.2.1 i) &&& (((1 : Int32) <<< (k &&& 31)) ^^^ (-1 : Int32))) (by decide)) ⟨hx, hb, hml, hown, hts⟩ g_X5_54 hds_X7_put hK hST hS hP hD hA [1] [0, 2] rfl rfl rfl ⟨Nat.le_of_ble_eq_true rfl, Nat.le_of_ble_eq_true rfl⟩ ⟨Nat.le_of_ble_eq_true rfl, Nat.le_of_ble_eq_true rfl⟩ rfl hl.1 rfl (Nat.le_of_ble_eq_true rfl) dX5_take_19 (fun u_3 H locs huu hP hD hS => ?_)
  have eu_3 := huu
  have hP : va_P G.1 vwCl (fl [[cArr G dh1 6 u_3], [(dh0, .inr (8, [.int d.1, .ref dh1, .ref dh2]))], [cArr G dh2 6 d.2.2]]) H := hP
  have hD : va_D A (fl [[cArr G dh1 6 u_3], [(dh0, .inr (8, [.int d.1, .ref dh1, .ref dh2]))], [cArr G dh2 6 d.2.2]]) := hD
  refine W.eq (g2 := F0 m 22 ls []) rfl ?_
  have hF : f_X5_take d i k = ((f_J6_bitCount_0f7a4 (f_X7_at 6 u_3 i)), (d.1, u_3, d.2.2)) := by subst eu_3; exact hF
  refine lv_aload_n hx hb dX5_take_22 rfl (lv_at hl 0 rfl) ?_
  refine va_get (D := G.1) (ci := 8) (v := .ref dh1) (C := RX5) (T := TX5) (N := 3) hx hb hts uws_X5 hown hK hP 1 rfl rfl 1 (by decide) (hts _ u_986) (fun _ h9 => h9) rfl dX5_take_23 ?_
  refine lv_iload_n hx hb dX5_take_26 rfl (lv_at hl 1 rfl) ?_
  refine r_S (own := RX5) (v := (some (.int (f_X7_at 6 u_3 i)))) (st1 := [.int (f_X7_at 6 u_3 i)]) (As := [.ref dh1, .int i]) (rest := []) (c_X7_at l G dh1 6 u_3 i (by decide)) ⟨hx, hb, hml, hown, hts⟩ g_X5_48 hds_X7_at hK hST hS hP [0] rfl ⟨Nat.le_of_ble_eq_true rfl, Nat.le_of_ble_eq_true rfl⟩ ⟨Nat.le_of_ble_eq_true rfl, Nat.le_of_ble_eq_true rfl⟩ rfl hl.1 rfl (Nat.le_of_ble_eq_true rfl) dX5_take_27 rfl (fun b_4 => ?_)
  refine r_S (own := RX5) (v := (some (.int (f_J6_bitCount_0f7a4 (f_X7_at 6 u_3 i))))) (st1 := [.int (f_J6_bitCount_0f7a4 (f_X7_at 6 u_3 i))]) (As := [.int (f_X7_at 6 u_3 i)]) (rest := []) (c_J6_bitCount_0f7a4 l G (f_X7_at 6 u_3 i)) ⟨hx, hb, hml, hown, hts⟩ g_X5_58 hds_J6_bitCount_0f7a4 hK hST hS hP [] rfl ⟨Nat.le_of_ble_eq_true rfl, Nat.le_of_ble_eq_true rfl⟩ ⟨Nat.le_of_ble_eq_true rfl, Nat.le_of_ble_eq_true rfl⟩ rfl hl.1 rfl (Nat.le_of_ble_eq_true rfl) dX5_take_30 rfl (fun b_5 => ?_)
  have hP := fl_sub (cs := [[(dh0, .inr (8, [.int d.1, .ref dh1, .ref dh2]))], [cArr G dh1 6 u_3], [cArr G dh2 6 d.2.2]]) [1, 0, 2] rfl hP
  have hD := fl_subD (cs := [[(dh0, .inr (8, [.int d.1, .ref dh1, .ref dh2]))], [cArr G dh1 6 u_3], [cArr G dh2 6 d.2.2]]) [1, 0, 2] rfl rfl hD
  exact w_ret (u := ((f_J6_bitCount_0f7a4 (f_X7_at 6 u_3 i)), (d.1, u_3, d.2.2))) hx hb hr hlk rfl hS rfl hF.symm hP hD (Nat.le_of_ble_eq_true rfl) (Nat.le_of_ble_eq_true rfl) dX5_take_33
theorem dX5_entriesFor_0 : decode cX5_entriesFor 0 = .ok (.aload_n 0, 1) := by decide +kernel
theorem dX5_entriesFor_1 : decode cX5_entriesFor 1 = .ok (.getfield 19, 3) := by decide +kernel
theorem u_987 : Cond.fieldLink RX5 19 "MoonlitDoors$Persons" "entries" "[I" ∈ UW := uw 987 (by decide +kernel) rfl
theorem dX5_entriesFor_4 : decode cX5_entriesFor 4 = .ok (.iload_n 1, 1) := by decide +kernel
theorem dX5_entriesFor_5 : decode cX5_entriesFor 5 = .ok (.invokestatic 48, 3) := by decide +kernel
theorem dX5_entriesFor_8 : decode cX5_entriesFor 8 = .ok (.ireturn, 1) := by decide +kernel
def f_X5_entriesFor (d : PeV) (i : Int32) : Int32 := (f_X7_at 6 d.2.2 i)
set_option maxHeartbeats 4000000 in
set_option maxRecDepth 100000 in
theorem c_X5_entriesFor (l : Launch) (G : GG) (dh0 : Nat) (dh1 : Nat) (dh2 : Nat) (d : PeV) (i : Int32) : rMet l yX5_entriesFor cX5_entriesFor 2 (some .int) 2 G (fl [wPe G dh0 dh1 dh2 d]) [.ref dh0, .int i] (some (.int (f_X5_entriesFor d i))) (True) := by
  refine r_start (by decide +kernel) (Nat.le_of_ble_eq_true rfl) ?_
  intro p e s m below meth c hx hb hr hml hts hown hlk hP hK hST ls hl
  have hS : va_S (fun _ => False) s.heap s.heap [] := va_S.rf
  have hown : s.vm.findClass RX5 = some m.cls := hown
  have hl : lv_has ls 2 [(0, .ref dh0), (1, .int i)] := hl
  have hF : f_X5_entriesFor d i = (f_X7_at 6 d.2.2 i) := rfl
  refine lv_aload_n hx hb dX5_entriesFor_0 rfl (lv_at hl 0 rfl) ?_
  refine va_get (D := G.1) (ci := 8) (v := .ref dh2) (C := RX5) (T := TX5) (N := 3) hx hb hts uws_X5 hown hK hP 0 rfl rfl 2 (by decide) (hts _ u_987) (fun _ h9 => h9) rfl dX5_entriesFor_1 ?_
  refine lv_iload_n hx hb dX5_entriesFor_4 rfl (lv_at hl 1 rfl) ?_
  refine r_S (own := RX5) (v := (some (.int (f_X7_at 6 d.2.2 i)))) (st1 := [.int (f_X7_at 6 d.2.2 i)]) (As := [.ref dh2, .int i]) (rest := []) (c_X7_at l G dh2 6 d.2.2 i (by decide)) ⟨hx, hb, hml, hown, hts⟩ g_X5_48 hds_X7_at hK hST hS hP [2] rfl ⟨Nat.le_of_ble_eq_true rfl, Nat.le_of_ble_eq_true rfl⟩ ⟨Nat.le_of_ble_eq_true rfl, Nat.le_of_ble_eq_true rfl⟩ rfl hl.1 rfl (Nat.le_of_ble_eq_true rfl) dX5_entriesFor_5 rfl (fun b_1 => ?_)
  exact r_ret hx hb hr hlk rfl (by rw [hF]) trivial dX5_entriesFor_8
theorem dX5_countEntry_0 : decode cX5_countEntry 0 = .ok (.aload_n 0, 1) := by decide +kernel
theorem dX5_countEntry_1 : decode cX5_countEntry 1 = .ok (.getfield 19, 3) := by decide +kernel
theorem dX5_countEntry_4 : decode cX5_countEntry 4 = .ok (.iload_n 1, 1) := by decide +kernel
theorem dX5_countEntry_5 : decode cX5_countEntry 5 = .ok (.invokestatic 64, 3) := by decide +kernel
theorem u_774 : Cond.methodLink RX5 64 yX7_increase ∈ UW := uw 774 (by decide +kernel) rfl
theorem u_763 : Cond.static yX7_increase ∈ UW := uw 763 (by decide +kernel) rfl
theorem u_764 : Cond.code yX7_increase cX7_increase 2 none ∈ UW := uw 764 (by decide +kernel) rfl
theorem g_X5_64 : GoodIn UW (va_wsS RX5 64 yX7_increase (wsU yX7_increase cX7_increase 2 none)) := gS u_774 u_763 u_43 u_764
theorem hds_X7_increase : yX7_increase.cls ≠ "java/lang/invoke/MethodHandle" ∧ yX7_increase.cls ≠ "java/lang/invoke/VarHandle" ∧ (parseMethodDescriptor yX7_increase.desc).map (fun d => d.parameters.length) = some 2 := by decide +kernel
theorem dX5_countEntry_8 : decode cX5_countEntry 8 = .ok (.return_, 1) := by decide +kernel
def f_X5_countEntry (d : PeV) (i : Int32) : PeV := (let u_2 : (Nat → Int32) := (f_X7_increase 6 d.2.2 i); (d.1, d.2.1, u_2))
set_option maxHeartbeats 4000000 in
set_option maxRecDepth 100000 in
theorem c_X5_countEntry (l : Launch) (G : GG) (dh0 : Nat) (dh1 : Nat) (dh2 : Nat) (sz : Nat) (d : PeV) (i : Int32) : wMet l yX5_countEntry cX5_countEntry 2 none 3 0 0 G (fl [wPe G dh0 dh1 dh2 d]) [.ref dh0, .int i] sz (fun u : PeV => none) (fun u : PeV => u = f_X5_countEntry d i) (fun u : PeV => fl [wPe G dh0 dh1 dh2 u]) := by
  refine w_start (by decide +kernel) (Nat.le_of_ble_eq_true rfl) ?_
  intro p e s m below meth c A hx hb hr hml hts hown hlk hin hP hD hA hK hST ls hl
  have hS : va_S A s.heap s.heap [] := va_S.rf
  have hown : s.vm.findClass RX5 = some m.cls := hown
  have hl : lv_has ls 2 [(0, .ref dh0), (1, .int i)] := hl
  have hF : f_X5_countEntry d i = (let u_2 : (Nat → Int32) := (f_X7_increase 6 d.2.2 i); (d.1, d.2.1, u_2)) := rfl
  refine lv_aload_n hx hb dX5_countEntry_0 rfl (lv_at hl 0 rfl) ?_
  refine va_get (D := G.1) (ci := 8) (v := .ref dh2) (C := RX5) (T := TX5) (N := 3) hx hb hts uws_X5 hown hK hP 0 rfl rfl 2 (by decide) (hts _ u_987) (fun _ h9 => h9) rfl dX5_countEntry_1 ?_
  refine lv_iload_n hx hb dX5_countEntry_4 rfl (lv_at hl 1 rfl) ?_
  have hP : va_P G.1 vwCl (fl [[(dh0, .inr (8, [.int d.1, .ref dh1, .ref dh2]))], [cArr G dh1 6 d.2.1], [cArr G dh2 6 d.2.2]]) s.heap := hP
  have hD : va_D A (fl [[(dh0, .inr (8, [.int d.1, .ref dh1, .ref dh2]))], [cArr G dh1 6 d.2.1], [cArr G dh2 6 d.2.2]]) := hD
  refine w_S (own := RX5) (cs := [[cArr G dh2 6 d.2.2]]) (rs := [[(dh0, .inr (8, [.int d.1, .ref dh1, .ref dh2]))], [cArr G dh1 6 d.2.1]]) (As := [.ref dh2, .int i]) (rest := []) (c_X7_increase l G dh2 s.heap.size 6 d.2.2 i (by decide)) ⟨hx, hb, hml, hown, hts⟩ g_X5_64 hds_X7_increase hK hST hS hP hD hA [2] [0, 1] rfl rfl rfl ⟨Nat.le_of_ble_eq_true rfl, Nat.le_of_ble_eq_true rfl⟩ ⟨Nat.le_of_ble_eq_true rfl, Nat.le_of_ble_eq_true rfl⟩ rfl hl.1 rfl (Nat.le_of_ble_eq_true rfl) dX5_countEntry_5 (fun u_2 H locs huu hP hD hS => ?_)
  have eu_2 := huu
  have hP : va_P G.1 vwCl (fl [[cArr G dh2 6 u_2], [(dh0, .inr (8, [.int d.1, .ref dh1, .ref dh2]))], [cArr G dh1 6 d.2.1]]) H := hP
  have hD : va_D A (fl [[cArr G dh2 6 u_2], [(dh0, .inr (8, [.int d.1, .ref dh1, .ref dh2]))], [cArr G dh1 6 d.2.1]]) := hD
  refine W.eq (g2 := F0 m 8 ls []) rfl ?_
  have hF : f_X5_countEntry d i = (d.1, d.2.1, u_2) := by subst eu_2; exact hF
  have hP := fl_sub (cs := [[(dh0, .inr (8, [.int d.1, .ref dh1, .ref dh2]))], [cArr G dh1 6 d.2.1], [cArr G dh2 6 u_2]]) [1, 2, 0] rfl hP
  have hD := fl_subD (cs := [[(dh0, .inr (8, [.int d.1, .ref dh1, .ref dh2]))], [cArr G dh1 6 d.2.1], [cArr G dh2 6 u_2]]) [1, 2, 0] rfl rfl hD
  exact w_retV (u := (d.1, d.2.1, u_2)) hx hb hr hlk hS rfl hF.symm hP hD (Nat.le_of_ble_eq_true rfl) (Nat.le_of_ble_eq_true rfl) dX5_countEntry_8
theorem dX5_countAhead_0 : decode cX5_countAhead 0 = .ok (.aload_n 0, 1) := by decide +kernel
theorem dX5_countAhead_1 : decode cX5_countAhead 1 = .ok (.getfield 19, 3) := by decide +kernel
theorem dX5_countAhead_4 : decode cX5_countAhead 4 = .ok (.iload_n 1, 1) := by decide +kernel
theorem dX5_countAhead_5 : decode cX5_countAhead 5 = .ok (.invokestatic 48, 3) := by decide +kernel
theorem dX5_countAhead_8 : decode cX5_countAhead 8 = .ok (.istore_n 2, 1) := by decide +kernel
theorem dX5_countAhead_9 : decode cX5_countAhead 9 = .ok (.iconst 0, 1) := by decide +kernel
theorem dX5_countAhead_10 : decode cX5_countAhead 10 = .ok (.istore_n 3, 1) := by decide +kernel
theorem dX5_countAhead_11 : decode cX5_countAhead 11 = .ok (.iconst 0, 1) := by decide +kernel
theorem dX5_countAhead_12 : decode cX5_countAhead 12 = .ok (.istore 4, 2) := by decide +kernel
theorem dX5_countAhead_14 : decode cX5_countAhead 14 = .ok (.iload 4, 2) := by decide +kernel
theorem dX5_countAhead_16 : decode cX5_countAhead 16 = .ok (.aload_n 0, 1) := by decide +kernel
theorem dX5_countAhead_17 : decode cX5_countAhead 17 = .ok (.getfield 9, 3) := by decide +kernel
theorem dX5_countAhead_20 : decode cX5_countAhead 20 = .ok (.if_icmp .ge 41, 3) := by decide +kernel
theorem dX5_countAhead_61 : decode cX5_countAhead 61 = .ok (.iload_n 3, 1) := by decide +kernel
theorem dX5_countAhead_62 : decode cX5_countAhead 62 = .ok (.ireturn, 1) := by decide +kernel
theorem dX5_countAhead_23 : decode cX5_countAhead 23 = .ok (.aload_n 0, 1) := by decide +kernel
theorem dX5_countAhead_24 : decode cX5_countAhead 24 = .ok (.getfield 19, 3) := by decide +kernel
theorem dX5_countAhead_27 : decode cX5_countAhead 27 = .ok (.iload 4, 2) := by decide +kernel
theorem dX5_countAhead_29 : decode cX5_countAhead 29 = .ok (.invokestatic 48, 3) := by decide +kernel
theorem dX5_countAhead_32 : decode cX5_countAhead 32 = .ok (.istore 5, 2) := by decide +kernel
theorem dX5_countAhead_34 : decode cX5_countAhead 34 = .ok (.iload 5, 2) := by decide +kernel
theorem dX5_countAhead_36 : decode cX5_countAhead 36 = .ok (.iload_n 2, 1) := by decide +kernel
theorem dX5_countAhead_37 : decode cX5_countAhead 37 = .ok (.if_icmp .gt 15, 3) := by decide +kernel
theorem dX5_countAhead_52 : decode cX5_countAhead 52 = .ok (.iinc 3 1, 3) := by decide +kernel
theorem dX5_countAhead_55 : decode cX5_countAhead 55 = .ok (.iinc 4 1, 3) := by decide +kernel
theorem dX5_countAhead_58 : decode cX5_countAhead 58 = .ok (.goto (-44), 3) := by decide +kernel
theorem dX5_countAhead_40 : decode cX5_countAhead 40 = .ok (.iload 5, 2) := by decide +kernel
theorem dX5_countAhead_42 : decode cX5_countAhead 42 = .ok (.iload_n 2, 1) := by decide +kernel
theorem dX5_countAhead_43 : decode cX5_countAhead 43 = .ok (.if_icmp .ne 12, 3) := by decide +kernel
theorem dX5_countAhead_46 : decode cX5_countAhead 46 = .ok (.iload 4, 2) := by decide +kernel
theorem dX5_countAhead_48 : decode cX5_countAhead 48 = .ok (.iload_n 1, 1) := by decide +kernel
theorem dX5_countAhead_49 : decode cX5_countAhead 49 = .ok (.if_icmp .ge 6, 3) := by decide +kernel
def lp_X5_countAhead_14 (d : PeV) (i : Int32) : Nat → Int32 → Int32 → Int32
  | 0, _, _ => 0
  | n + 1, x4, x3 => (if d.1 ≤ x4 then x3 else (if (f_X7_at 6 d.2.2 i) < (f_X7_at 6 d.2.2 x4) then (lp_X5_countAhead_14 d i n (x4 + 1) (x3 + 1)) else (if (f_X7_at 6 d.2.2 x4) = (f_X7_at 6 d.2.2 i) then (if i ≤ x4 then (lp_X5_countAhead_14 d i n (x4 + 1) x3) else (lp_X5_countAhead_14 d i n (x4 + 1) (x3 + 1))) else (lp_X5_countAhead_14 d i n (x4 + 1) x3))))
def f_X5_countAhead (d : PeV) (i : Int32) : Int32 := (lp_X5_countAhead_14 d i (((d.1).toInt - ((0 : Int32)).toInt).toNat + 1) (0 : Int32) (0 : Int32))
set_option maxHeartbeats 4000000 in
set_option maxRecDepth 100000 in
theorem c_X5_countAhead (l : Launch) (G : GG) (dh0 : Nat) (dh1 : Nat) (dh2 : Nat) (d : PeV) (i : Int32) : rMet l yX5_countAhead cX5_countAhead 6 (some .int) 2 G (fl [wPe G dh0 dh1 dh2 d]) [.ref dh0, .int i] (some (.int (f_X5_countAhead d i))) (True) := by
  refine r_start (by decide +kernel) (Nat.le_of_ble_eq_true rfl) ?_
  intro p e s m below meth c hx hb hr hml hts hown hlk hP hK hST ls hl
  have hS : va_S (fun _ => False) s.heap s.heap [] := va_S.rf
  have hown : s.vm.findClass RX5 = some m.cls := hown
  have hl : lv_has ls 6 [(0, .ref dh0), (1, .int i)] := hl
  have hF : f_X5_countAhead d i = (lp_X5_countAhead_14 d i (((d.1).toInt - ((0 : Int32)).toInt).toNat + 1) (0 : Int32) (0 : Int32)) := rfl
  refine lv_aload_n hx hb dX5_countAhead_0 rfl (lv_at hl 0 rfl) ?_
  refine va_get (D := G.1) (ci := 8) (v := .ref dh2) (C := RX5) (T := TX5) (N := 3) hx hb hts uws_X5 hown hK hP 0 rfl rfl 2 (by decide) (hts _ u_987) (fun _ h9 => h9) rfl dX5_countAhead_1 ?_
  refine lv_iload_n hx hb dX5_countAhead_4 rfl (lv_at hl 1 rfl) ?_
  refine r_S (own := RX5) (v := (some (.int (f_X7_at 6 d.2.2 i)))) (st1 := [.int (f_X7_at 6 d.2.2 i)]) (As := [.ref dh2, .int i]) (rest := []) (c_X7_at l G dh2 6 d.2.2 i (by decide)) ⟨hx, hb, hml, hown, hts⟩ g_X5_48 hds_X7_at hK hST hS hP [2] rfl ⟨Nat.le_of_ble_eq_true rfl, Nat.le_of_ble_eq_true rfl⟩ ⟨Nat.le_of_ble_eq_true rfl, Nat.le_of_ble_eq_true rfl⟩ rfl hl.1 rfl (Nat.le_of_ble_eq_true rfl) dX5_countAhead_5 rfl (fun b_1 => ?_)
  refine lv_istore_n (lv' := [(2, .int (f_X7_at 6 d.2.2 i)), (0, .ref dh0), (1, .int i)]) hx hb dX5_countAhead_8 rfl hl (by decide) rfl (fun ls hl => ?_)
  refine lv_iconst (v := (0 : Int32)) hx hb dX5_countAhead_9 (by decide) ?_
  refine lv_istore_n (lv' := [(3, .int (0 : Int32)), (2, .int (f_X7_at 6 d.2.2 i)), (0, .ref dh0), (1, .int i)]) hx hb dX5_countAhead_10 rfl hl (by decide) rfl (fun ls hl => ?_)
  refine lv_iconst (v := (0 : Int32)) hx hb dX5_countAhead_11 (by decide) ?_
  refine lv_istore (lv' := [(4, .int (0 : Int32)), (3, .int (0 : Int32)), (2, .int (f_X7_at 6 d.2.2 i)), (0, .ref dh0), (1, .int i)]) hx hb dX5_countAhead_12 hl (by decide) rfl (fun ls hl => ?_)
  have L14 : ∀ (n : Nat) (x4 : Int32) (x3 : Int32) (ls : Array Slot), lv_has ls 6 [(4, .int x4), (3, .int x3), (2, .int (f_X7_at 6 d.2.2 i)), (0, .ref dh0), (1, .int i)] → (upI x4 d.1 n) → f_X5_countAhead d i = lp_X5_countAhead_14 d i n x4 x3 → W p l e (rmd 2 0 0) s m ([.ref dh0, .int i] : List Value).toArray below meth c s.heap [] 0 0 (MQ below (rQ (some (.int (f_X5_countAhead d i))) (True)) ([.ref dh0, .int i] : List Value).toArray s 0 0 (fun _ => False)) (F0 m 14 ls []) := by
    intro n
    induction n with
    | zero => intro x4 x3 ls hl hu; exact absurd hu (upI_0)
    | succ n ih =>
      intro x4 x3 ls hl hu hF
      have hF : f_X5_countAhead d i = (if d.1 ≤ x4 then x3 else (if (f_X7_at 6 d.2.2 i) < (f_X7_at 6 d.2.2 x4) then (lp_X5_countAhead_14 d i n (x4 + 1) (x3 + 1)) else (if (f_X7_at 6 d.2.2 x4) = (f_X7_at 6 d.2.2 i) then (if i ≤ x4 then (lp_X5_countAhead_14 d i n (x4 + 1) x3) else (lp_X5_countAhead_14 d i n (x4 + 1) (x3 + 1))) else (lp_X5_countAhead_14 d i n (x4 + 1) x3)))) := hF
      refine lv_iload hx hb dX5_countAhead_14 (lv_at hl 0 rfl) ?_
      refine lv_aload_n hx hb dX5_countAhead_16 rfl (lv_at hl 3 rfl) ?_
      refine va_get (D := G.1) (ci := 8) (v := .int d.1) (C := RX5) (T := TX5) (N := 3) hx hb hts uws_X5 hown hK hP 0 rfl rfl 0 (by decide) (hts _ u_984) (fun _ h9 => h9) rfl dX5_countAhead_17 ?_
      refine lv_icmp_ge (tgt := 61) hx hb dX5_countAhead_20 (by decide) (fun c_2 => ?_) (fun c_2 => ?_)
      · have hF := hF.trans (if_pos c_2)
        refine lv_iload_n hx hb dX5_countAhead_61 rfl (lv_at hl 1 rfl) ?_
        exact r_ret hx hb hr hlk rfl (by rw [hF]) trivial dX5_countAhead_62
      · have hF := hF.trans (if_neg c_2)
        refine lv_aload_n hx hb dX5_countAhead_23 rfl (lv_at hl 3 rfl) ?_
        refine va_get (D := G.1) (ci := 8) (v := .ref dh2) (C := RX5) (T := TX5) (N := 3) hx hb hts uws_X5 hown hK hP 0 rfl rfl 2 (by decide) (hts _ u_987) (fun _ h9 => h9) rfl dX5_countAhead_24 ?_
        refine lv_iload hx hb dX5_countAhead_27 (lv_at hl 0 rfl) ?_
        refine r_S (own := RX5) (v := (some (.int (f_X7_at 6 d.2.2 x4)))) (st1 := [.int (f_X7_at 6 d.2.2 x4)]) (As := [.ref dh2, .int x4]) (rest := []) (c_X7_at l G dh2 6 d.2.2 x4 (by decide)) ⟨hx, hb, hml, hown, hts⟩ g_X5_48 hds_X7_at hK hST hS hP [2] rfl ⟨Nat.le_of_ble_eq_true rfl, Nat.le_of_ble_eq_true rfl⟩ ⟨Nat.le_of_ble_eq_true rfl, Nat.le_of_ble_eq_true rfl⟩ rfl hl.1 rfl (Nat.le_of_ble_eq_true rfl) dX5_countAhead_29 rfl (fun b_3 => ?_)
        refine lv_istore (lv' := [(5, .int (f_X7_at 6 d.2.2 x4)), (4, .int x4), (3, .int x3), (2, .int (f_X7_at 6 d.2.2 i)), (0, .ref dh0), (1, .int i)]) hx hb dX5_countAhead_32 hl (by decide) rfl (fun ls hl => ?_)
        refine lv_iload hx hb dX5_countAhead_34 (lv_at hl 0 rfl) ?_
        refine lv_iload_n hx hb dX5_countAhead_36 rfl (lv_at hl 3 rfl) ?_
        refine lv_icmp_gt (tgt := 52) hx hb dX5_countAhead_37 (by decide) (fun c_4 => ?_) (fun c_4 => ?_)
        · have hF := hF.trans (if_pos c_4)
          refine lv_iinc (v := (x3 + 1)) (lv' := [(3, .int (x3 + 1)), (5, .int (f_X7_at 6 d.2.2 x4)), (4, .int x4), (2, .int (f_X7_at 6 d.2.2 i)), (0, .ref dh0), (1, .int i)]) hx hb dX5_countAhead_52 hl (k := 2) rfl rfl (by decide) rfl (fun ls hl => ?_)
          refine lv_iinc (v := (x4 + 1)) (lv' := [(4, .int (x4 + 1)), (3, .int (x3 + 1)), (5, .int (f_X7_at 6 d.2.2 x4)), (2, .int (f_X7_at 6 d.2.2 i)), (0, .ref dh0), (1, .int i)]) hx hb dX5_countAhead_55 hl (k := 2) rfl rfl (by decide) rfl (fun ls hl => ?_)
          refine lv_goto (tgt := 14) hx hb dX5_countAhead_58 (by decide) ?_
          exact ih (x4 + 1) (x3 + 1) ls (lv_sub hl [0, 1, 3, 4, 5] rfl) (upI_s (Int32.not_le.mp c_2) hu) hF
        · have hF := hF.trans (if_neg c_4)
          refine lv_iload hx hb dX5_countAhead_40 (lv_at hl 0 rfl) ?_
          refine lv_iload_n hx hb dX5_countAhead_42 rfl (lv_at hl 3 rfl) ?_
          refine lv_icmp_ne (tgt := 55) hx hb dX5_countAhead_43 (by decide) (fun c_5 => ?_) (fun c_5 => ?_)
          · have hF := hF.trans (if_neg c_5)
            refine lv_iinc (v := (x4 + 1)) (lv' := [(4, .int (x4 + 1)), (5, .int (f_X7_at 6 d.2.2 x4)), (3, .int x3), (2, .int (f_X7_at 6 d.2.2 i)), (0, .ref dh0), (1, .int i)]) hx hb dX5_countAhead_55 hl (k := 1) rfl rfl (by decide) rfl (fun ls hl => ?_)
            refine lv_goto (tgt := 14) hx hb dX5_countAhead_58 (by decide) ?_
            exact ih (x4 + 1) x3 ls (lv_sub hl [0, 2, 3, 4, 5] rfl) (upI_s (Int32.not_le.mp c_2) hu) hF
          · have hF := hF.trans (if_pos c_5)
            refine lv_iload hx hb dX5_countAhead_46 (lv_at hl 1 rfl) ?_
            refine lv_iload_n hx hb dX5_countAhead_48 rfl (lv_at hl 5 rfl) ?_
            refine lv_icmp_ge (tgt := 55) hx hb dX5_countAhead_49 (by decide) (fun c_6 => ?_) (fun c_6 => ?_)
            · have hF := hF.trans (if_pos c_6)
              refine lv_iinc (v := (x4 + 1)) (lv' := [(4, .int (x4 + 1)), (5, .int (f_X7_at 6 d.2.2 x4)), (3, .int x3), (2, .int (f_X7_at 6 d.2.2 i)), (0, .ref dh0), (1, .int i)]) hx hb dX5_countAhead_55 hl (k := 1) rfl rfl (by decide) rfl (fun ls hl => ?_)
              refine lv_goto (tgt := 14) hx hb dX5_countAhead_58 (by decide) ?_
              exact ih (x4 + 1) x3 ls (lv_sub hl [0, 2, 3, 4, 5] rfl) (upI_s (Int32.not_le.mp c_2) hu) hF
            · have hF := hF.trans (if_neg c_6)
              refine lv_iinc (v := (x3 + 1)) (lv' := [(3, .int (x3 + 1)), (5, .int (f_X7_at 6 d.2.2 x4)), (4, .int x4), (2, .int (f_X7_at 6 d.2.2 i)), (0, .ref dh0), (1, .int i)]) hx hb dX5_countAhead_52 hl (k := 2) rfl rfl (by decide) rfl (fun ls hl => ?_)
              refine lv_iinc (v := (x4 + 1)) (lv' := [(4, .int (x4 + 1)), (3, .int (x3 + 1)), (5, .int (f_X7_at 6 d.2.2 x4)), (2, .int (f_X7_at 6 d.2.2 i)), (0, .ref dh0), (1, .int i)]) hx hb dX5_countAhead_55 hl (k := 2) rfl rfl (by decide) rfl (fun ls hl => ?_)
              refine lv_goto (tgt := 14) hx hb dX5_countAhead_58 (by decide) ?_
              exact ih (x4 + 1) (x3 + 1) ls (lv_sub hl [0, 1, 3, 4, 5] rfl) (upI_s (Int32.not_le.mp c_2) hu) hF
  exact L14 (((d.1).toInt - ((0 : Int32)).toInt).toNat + 1) (0 : Int32) (0 : Int32) ls (lv_sub hl [0, 1, 2, 3, 4] rfl) (upI_i) hF
theorem dX5_personOfRank_0 : decode cX5_personOfRank 0 = .ok (.iconst 0, 1) := by decide +kernel
theorem dX5_personOfRank_1 : decode cX5_personOfRank 1 = .ok (.istore_n 2, 1) := by decide +kernel
theorem dX5_personOfRank_2 : decode cX5_personOfRank 2 = .ok (.iload_n 2, 1) := by decide +kernel
theorem dX5_personOfRank_3 : decode cX5_personOfRank 3 = .ok (.aload_n 0, 1) := by decide +kernel
theorem dX5_personOfRank_4 : decode cX5_personOfRank 4 = .ok (.getfield 9, 3) := by decide +kernel
theorem dX5_personOfRank_7 : decode cX5_personOfRank 7 = .ok (.if_icmp .ge 20, 3) := by decide +kernel
theorem dX5_personOfRank_27 : decode cX5_personOfRank 27 = .ok (.iconst (-1), 1) := by decide +kernel
theorem dX5_personOfRank_28 : decode cX5_personOfRank 28 = .ok (.ireturn, 1) := by decide +kernel
theorem dX5_personOfRank_10 : decode cX5_personOfRank 10 = .ok (.aload_n 0, 1) := by decide +kernel
theorem dX5_personOfRank_11 : decode cX5_personOfRank 11 = .ok (.iload_n 2, 1) := by decide +kernel
theorem dX5_personOfRank_12 : decode cX5_personOfRank 12 = .ok (.invokevirtual 68, 3) := by decide +kernel
theorem u_800 : Cond.methodLink RX5 68 yX5_countAhead ∈ UW := uw 800 (by decide +kernel) rfl
theorem u_802 : Cond.instanceMethod yX5_countAhead ∈ UW := uw 802 (by decide +kernel) rfl
theorem u_7 : Cond.selects RX5 yX5_countAhead yX5_countAhead ∈ UW := uw 7 (by decide +kernel) rfl
theorem u_804 : Cond.code yX5_countAhead cX5_countAhead 6 (some .int) ∈ UW := uw 804 (by decide +kernel) rfl
theorem g_X5_68 : GoodIn UW (wsV RX5 68 RX5 yX5_countAhead (wsU yX5_countAhead cX5_countAhead 6 (some .int))) := gV u_800 u_802 u_7 u_25 u_804
theorem hdv_X5_countAhead : yX5_countAhead.cls = RX5 ∧ yX5_countAhead.cls ≠ "java/lang/invoke/MethodHandle" ∧ yX5_countAhead.cls ≠ "java/lang/invoke/VarHandle" ∧ (parseMethodDescriptor yX5_countAhead.desc).map (fun d => d.parameters.length) = some 1 := by decide +kernel
theorem dX5_personOfRank_15 : decode cX5_personOfRank 15 = .ok (.iload_n 1, 1) := by decide +kernel
theorem dX5_personOfRank_16 : decode cX5_personOfRank 16 = .ok (.if_icmp .ne 5, 3) := by decide +kernel
theorem dX5_personOfRank_21 : decode cX5_personOfRank 21 = .ok (.iinc 2 1, 3) := by decide +kernel
theorem dX5_personOfRank_24 : decode cX5_personOfRank 24 = .ok (.goto (-22), 3) := by decide +kernel
theorem dX5_personOfRank_19 : decode cX5_personOfRank 19 = .ok (.iload_n 2, 1) := by decide +kernel
theorem dX5_personOfRank_20 : decode cX5_personOfRank 20 = .ok (.ireturn, 1) := by decide +kernel
def lp_X5_personOfRank_2 (d : PeV) (q : Int32) : Nat → Int32 → Int32
  | 0, _ => 0
  | n + 1, x2 => (if d.1 ≤ x2 then (-1 : Int32) else (if (f_X5_countAhead d x2) = q then x2 else (lp_X5_personOfRank_2 d q n (x2 + 1))))
def f_X5_personOfRank (d : PeV) (q : Int32) : Int32 := (lp_X5_personOfRank_2 d q (((d.1).toInt - ((0 : Int32)).toInt).toNat + 1) (0 : Int32))
set_option maxHeartbeats 4000000 in
set_option maxRecDepth 100000 in
theorem c_X5_personOfRank (l : Launch) (G : GG) (dh0 : Nat) (dh1 : Nat) (dh2 : Nat) (d : PeV) (q : Int32) : rMet l yX5_personOfRank cX5_personOfRank 3 (some .int) 3 G (fl [wPe G dh0 dh1 dh2 d]) [.ref dh0, .int q] (some (.int (f_X5_personOfRank d q))) (True) := by
  refine r_start (by decide +kernel) (Nat.le_of_ble_eq_true rfl) ?_
  intro p e s m below meth c hx hb hr hml hts hown hlk hP hK hST ls hl
  have hS : va_S (fun _ => False) s.heap s.heap [] := va_S.rf
  have hown : s.vm.findClass RX5 = some m.cls := hown
  have hl : lv_has ls 3 [(0, .ref dh0), (1, .int q)] := hl
  have hF : f_X5_personOfRank d q = (lp_X5_personOfRank_2 d q (((d.1).toInt - ((0 : Int32)).toInt).toNat + 1) (0 : Int32)) := rfl
  refine lv_iconst (v := (0 : Int32)) hx hb dX5_personOfRank_0 (by decide) ?_
  refine lv_istore_n (lv' := [(2, .int (0 : Int32)), (0, .ref dh0), (1, .int q)]) hx hb dX5_personOfRank_1 rfl hl (by decide) rfl (fun ls hl => ?_)
  have L2 : ∀ (n : Nat) (x2 : Int32) (ls : Array Slot), lv_has ls 3 [(2, .int x2), (0, .ref dh0), (1, .int q)] → (upI x2 d.1 n) → f_X5_personOfRank d q = lp_X5_personOfRank_2 d q n x2 → W p l e (rmd 3 0 0) s m ([.ref dh0, .int q] : List Value).toArray below meth c s.heap [] 0 0 (MQ below (rQ (some (.int (f_X5_personOfRank d q))) (True)) ([.ref dh0, .int q] : List Value).toArray s 0 0 (fun _ => False)) (F0 m 2 ls []) := by
    intro n
    induction n with
    | zero => intro x2 ls hl hu; exact absurd hu (upI_0)
    | succ n ih =>
      intro x2 ls hl hu hF
      have hF : f_X5_personOfRank d q = (if d.1 ≤ x2 then (-1 : Int32) else (if (f_X5_countAhead d x2) = q then x2 else (lp_X5_personOfRank_2 d q n (x2 + 1)))) := hF
      refine lv_iload_n hx hb dX5_personOfRank_2 rfl (lv_at hl 0 rfl) ?_
      refine lv_aload_n hx hb dX5_personOfRank_3 rfl (lv_at hl 1 rfl) ?_
      refine va_get (D := G.1) (ci := 8) (v := .int d.1) (C := RX5) (T := TX5) (N := 3) hx hb hts uws_X5 hown hK hP 0 rfl rfl 0 (by decide) (hts _ u_984) (fun _ h9 => h9) rfl dX5_personOfRank_4 ?_
      refine lv_icmp_ge (tgt := 27) hx hb dX5_personOfRank_7 (by decide) (fun c_1 => ?_) (fun c_1 => ?_)
      · have hF := hF.trans (if_pos c_1)
        refine lv_iconst (v := (-1 : Int32)) hx hb dX5_personOfRank_27 (by decide) ?_
        exact r_ret hx hb hr hlk rfl (by rw [hF]) trivial dX5_personOfRank_28
      · have hF := hF.trans (if_neg c_1)
        refine lv_aload_n hx hb dX5_personOfRank_10 rfl (lv_at hl 1 rfl) ?_
        refine lv_iload_n hx hb dX5_personOfRank_11 rfl (lv_at hl 0 rfl) ?_
        refine r_V (own := RX5) (v := (some (.int (f_X5_countAhead d x2)))) (st1 := [.int (f_X5_countAhead d x2)]) (As := [.int x2]) (rest := []) (c_X5_countAhead l G dh0 dh1 dh2 d x2) ⟨hx, hb, hml, hown, hts⟩ g_X5_68 hdv_X5_countAhead hK hST hS hP [0, 1, 2] rfl (k0 := 0) rfl rfl rfl ⟨Nat.le_of_ble_eq_true rfl, Nat.le_of_ble_eq_true rfl⟩ ⟨Nat.le_of_ble_eq_true rfl, Nat.le_of_ble_eq_true rfl⟩ rfl hl.1 rfl (Nat.le_of_ble_eq_true rfl) dX5_personOfRank_12 rfl (fun b_2 => ?_)
        refine lv_iload_n hx hb dX5_personOfRank_15 rfl (lv_at hl 2 rfl) ?_
        refine lv_icmp_ne (tgt := 21) hx hb dX5_personOfRank_16 (by decide) (fun c_3 => ?_) (fun c_3 => ?_)
        · have hF := hF.trans (if_neg c_3)
          refine lv_iinc (v := (x2 + 1)) (lv' := [(2, .int (x2 + 1)), (0, .ref dh0), (1, .int q)]) hx hb dX5_personOfRank_21 hl (k := 0) rfl rfl (by decide) rfl (fun ls hl => ?_)
          refine lv_goto (tgt := 2) hx hb dX5_personOfRank_24 (by decide) ?_
          exact ih (x2 + 1) ls (lv_sub hl [0, 1, 2] rfl) (upI_s (Int32.not_le.mp c_1) hu) hF
        · have hF := hF.trans (if_pos c_3)
          refine lv_iload_n hx hb dX5_personOfRank_19 rfl (lv_at hl 0 rfl) ?_
          exact r_ret hx hb hr hlk rfl (by rw [hF]) trivial dX5_personOfRank_20
  exact L2 (((d.1).toInt - ((0 : Int32)).toInt).toNat + 1) (0 : Int32) ls (lv_sub hl [0, 1, 2] rfl) (upI_i) hF
theorem dX5_copyFrom_0 : decode cX5_copyFrom 0 = .ok (.aload_n 1, 1) := by decide +kernel
theorem dX5_copyFrom_1 : decode cX5_copyFrom 1 = .ok (.ifnonnull 4, 3) := by decide +kernel
theorem dX5_copyFrom_5 : decode cX5_copyFrom 5 = .ok (.aload_n 0, 1) := by decide +kernel
theorem dX5_copyFrom_6 : decode cX5_copyFrom 6 = .ok (.aload_n 1, 1) := by decide +kernel
theorem dX5_copyFrom_7 : decode cX5_copyFrom 7 = .ok (.getfield 9, 3) := by decide +kernel
theorem dX5_copyFrom_10 : decode cX5_copyFrom 10 = .ok (.putfield 9, 3) := by decide +kernel
theorem dX5_copyFrom_13 : decode cX5_copyFrom 13 = .ok (.aload_n 1, 1) := by decide +kernel
theorem dX5_copyFrom_14 : decode cX5_copyFrom 14 = .ok (.getfield 15, 3) := by decide +kernel
theorem dX5_copyFrom_17 : decode cX5_copyFrom 17 = .ok (.aload_n 0, 1) := by decide +kernel
theorem dX5_copyFrom_18 : decode cX5_copyFrom 18 = .ok (.getfield 15, 3) := by decide +kernel
theorem dX5_copyFrom_21 : decode cX5_copyFrom 21 = .ok (.invokestatic 71, 3) := by decide +kernel
theorem u_569 : Cond.methodLink RX5 71 yX7_copy ∈ UW := uw 569 (by decide +kernel) rfl
theorem g_X5_71 : GoodIn UW (va_wsS RX5 71 yX7_copy (wsU yX7_copy cX7_copy 3 none)) := gS u_569 u_558 u_43 u_559
theorem dX5_copyFrom_24 : decode cX5_copyFrom 24 = .ok (.aload_n 1, 1) := by decide +kernel
theorem dX5_copyFrom_25 : decode cX5_copyFrom 25 = .ok (.getfield 19, 3) := by decide +kernel
theorem dX5_copyFrom_28 : decode cX5_copyFrom 28 = .ok (.aload_n 0, 1) := by decide +kernel
theorem dX5_copyFrom_29 : decode cX5_copyFrom 29 = .ok (.getfield 19, 3) := by decide +kernel
theorem dX5_copyFrom_32 : decode cX5_copyFrom 32 = .ok (.invokestatic 71, 3) := by decide +kernel
theorem dX5_copyFrom_35 : decode cX5_copyFrom 35 = .ok (.return_, 1) := by decide +kernel
def f_X5_copyFrom (d : PeV) (o : PeV) : PeV := (let u_2 : (Nat → Int32) := (f_X7_copy 6 o.2.1 6 d.2.1); (let u_4 : (Nat → Int32) := (f_X7_copy 6 o.2.2 6 d.2.2); (o.1, u_2, u_4)))
set_option maxHeartbeats 4000000 in
set_option maxRecDepth 100000 in
theorem c_X5_copyFrom (l : Launch) (G : GG) (dh0 : Nat) (dh1 : Nat) (dh2 : Nat) (oh0 : Nat) (oh1 : Nat) (oh2 : Nat) (sz : Nat) (d : PeV) (o : PeV) : wMet l yX5_copyFrom cX5_copyFrom 2 none 2 0 0 G (fl [wPe G dh0 dh1 dh2 d, wPe G oh0 oh1 oh2 o]) [.ref dh0, .ref oh0] sz (fun u : PeV => none) (fun u : PeV => u = f_X5_copyFrom d o) (fun u : PeV => fl [wPe G dh0 dh1 dh2 u, wPe G oh0 oh1 oh2 o]) := by
  refine w_start (by decide +kernel) (Nat.le_of_ble_eq_true rfl) ?_
  intro p e s m below meth c A hx hb hr hml hts hown hlk hin hP hD hA hK hST ls hl
  have hS : va_S A s.heap s.heap [] := va_S.rf
  have hown : s.vm.findClass RX5 = some m.cls := hown
  have hl : lv_has ls 2 [(0, .ref dh0), (1, .ref oh0)] := hl
  have hF : f_X5_copyFrom d o = (let u_2 : (Nat → Int32) := (f_X7_copy 6 o.2.1 6 d.2.1); (let u_4 : (Nat → Int32) := (f_X7_copy 6 o.2.2 6 d.2.2); (o.1, u_2, u_4))) := rfl
  refine lv_aload_n hx hb dX5_copyFrom_0 rfl (lv_at hl 1 rfl) ?_
  refine lv_ifnonnull (tgt := 5) hx hb dX5_copyFrom_1 (by decide) ?_
  refine lv_aload_n hx hb dX5_copyFrom_5 rfl (lv_at hl 0 rfl) ?_
  refine lv_aload_n hx hb dX5_copyFrom_6 rfl (lv_at hl 1 rfl) ?_
  refine va_get (D := G.1) (ci := 8) (v := .int o.1) (C := RX5) (T := TX5) (N := 3) hx hb hts uws_X5 hown hK hP 3 rfl rfl 0 (by decide) (hts _ u_984) (fun _ h9 => h9) rfl dX5_copyFrom_7 ?_
  refine va_put (D := G.1) (ci := 8) (v := .int o.1) (ty := .int) (C := RX5) (T := TX5) (N := 3) hx hb hts uws_X5 tyX5 tyX5_ok nmX5 hown hK hP hD hS 0 rfl rfl 0 (by decide) (hts _ u_984) (fun _ h9 => h9) rfl (by decide +kernel) rfl rfl (Nat.le_of_ble_eq_true rfl) dX5_copyFrom_10 (fun H locs hP hD hS => ?_)
  have hP : va_P G.1 vwCl (fl [wPe G dh0 dh1 dh2 (o.1, d.2.1, d.2.2), wPe G oh0 oh1 oh2 o]) H := hP
  have hD : va_D A (fl [wPe G dh0 dh1 dh2 (o.1, d.2.1, d.2.2), wPe G oh0 oh1 oh2 o]) := hD
  refine lv_aload_n hx hb dX5_copyFrom_13 rfl (lv_at hl 1 rfl) ?_
  refine va_get (D := G.1) (ci := 8) (v := .ref oh1) (C := RX5) (T := TX5) (N := 3) hx hb hts uws_X5 hown hK hP 3 rfl rfl 1 (by decide) (hts _ u_986) (fun _ h9 => h9) rfl dX5_copyFrom_14 ?_
  refine lv_aload_n hx hb dX5_copyFrom_17 rfl (lv_at hl 0 rfl) ?_
  refine va_get (D := G.1) (ci := 8) (v := .ref dh1) (C := RX5) (T := TX5) (N := 3) hx hb hts uws_X5 hown hK hP 0 rfl rfl 1 (by decide) (hts _ u_986) (fun _ h9 => h9) rfl dX5_copyFrom_18 ?_
  have hP : va_P G.1 vwCl (fl [wPe G dh0 dh1 dh2 (o.1, d.2.1, d.2.2), [(oh0, .inr (8, [.int o.1, .ref oh1, .ref oh2]))], [cArr G oh1 6 o.2.1], [cArr G oh2 6 o.2.2]]) H := hP
  have hD : va_D A (fl [wPe G dh0 dh1 dh2 (o.1, d.2.1, d.2.2), [(oh0, .inr (8, [.int o.1, .ref oh1, .ref oh2]))], [cArr G oh1 6 o.2.1], [cArr G oh2 6 o.2.2]]) := hD
  have hP : va_P G.1 vwCl (fl [[(dh0, .inr (8, [.int o.1, .ref dh1, .ref dh2]))], [cArr G dh1 6 d.2.1], [cArr G dh2 6 d.2.2], [(oh0, .inr (8, [.int o.1, .ref oh1, .ref oh2]))], [cArr G oh1 6 o.2.1], [cArr G oh2 6 o.2.2]]) H := hP
  have hD : va_D A (fl [[(dh0, .inr (8, [.int o.1, .ref dh1, .ref dh2]))], [cArr G dh1 6 d.2.1], [cArr G dh2 6 d.2.2], [(oh0, .inr (8, [.int o.1, .ref oh1, .ref oh2]))], [cArr G oh1 6 o.2.1], [cArr G oh2 6 o.2.2]]) := hD
  refine w_S (own := RX5) (cs := [[cArr G oh1 6 o.2.1], [cArr G dh1 6 d.2.1]]) (rs := [[(dh0, .inr (8, [.int o.1, .ref dh1, .ref dh2]))], [cArr G dh2 6 d.2.2], [(oh0, .inr (8, [.int o.1, .ref oh1, .ref oh2]))], [cArr G oh2 6 o.2.2]]) (As := [.ref oh1, .ref dh1]) (rest := []) (c_X7_copy l G oh1 dh1 H.size 6 o.2.1 6 d.2.1 (by decide) (by decide)) ⟨hx, hb, hml, hown, hts⟩ g_X5_71 hds_X7_copy hK hST hS hP hD hA [4, 1] [0, 2, 3, 5] rfl rfl rfl ⟨Nat.le_of_ble_eq_true rfl, Nat.le_of_ble_eq_true rfl⟩ ⟨Nat.le_of_ble_eq_true rfl, Nat.le_of_ble_eq_true rfl⟩ rfl hl.1 rfl (Nat.le_of_ble_eq_true rfl) dX5_copyFrom_21 (fun u_2 H locs huu hP hD hS => ?_)
  have eu_2 := huu
  have hP : va_P G.1 vwCl (fl [[cArr G oh1 6 o.2.1], [cArr G dh1 6 u_2], [(dh0, .inr (8, [.int o.1, .ref dh1, .ref dh2]))], [cArr G dh2 6 d.2.2], [(oh0, .inr (8, [.int o.1, .ref oh1, .ref oh2]))], [cArr G oh2 6 o.2.2]]) H := hP
  have hD : va_D A (fl [[cArr G oh1 6 o.2.1], [cArr G dh1 6 u_2], [(dh0, .inr (8, [.int o.1, .ref dh1, .ref dh2]))], [cArr G dh2 6 d.2.2], [(oh0, .inr (8, [.int o.1, .ref oh1, .ref oh2]))], [cArr G oh2 6 o.2.2]]) := hD
  refine W.eq (g2 := F0 m 24 ls []) rfl ?_
  have hF : f_X5_copyFrom d o = (let u_4 : (Nat → Int32) := (f_X7_copy 6 o.2.2 6 d.2.2); (o.1, u_2, u_4)) := by subst eu_2; exact hF
  refine lv_aload_n hx hb dX5_copyFrom_24 rfl (lv_at hl 1 rfl) ?_
  refine va_get (D := G.1) (ci := 8) (v := .ref oh2) (C := RX5) (T := TX5) (N := 3) hx hb hts uws_X5 hown hK hP 4 rfl rfl 2 (by decide) (hts _ u_987) (fun _ h9 => h9) rfl dX5_copyFrom_25 ?_
  refine lv_aload_n hx hb dX5_copyFrom_28 rfl (lv_at hl 0 rfl) ?_
  refine va_get (D := G.1) (ci := 8) (v := .ref dh2) (C := RX5) (T := TX5) (N := 3) hx hb hts uws_X5 hown hK hP 2 rfl rfl 2 (by decide) (hts _ u_987) (fun _ h9 => h9) rfl dX5_copyFrom_29 ?_
  refine w_S (own := RX5) (cs := [[cArr G oh2 6 o.2.2], [cArr G dh2 6 d.2.2]]) (rs := [[cArr G oh1 6 o.2.1], [cArr G dh1 6 u_2], [(dh0, .inr (8, [.int o.1, .ref dh1, .ref dh2]))], [(oh0, .inr (8, [.int o.1, .ref oh1, .ref oh2]))]]) (As := [.ref oh2, .ref dh2]) (rest := []) (c_X7_copy l G oh2 dh2 H.size 6 o.2.2 6 d.2.2 (by decide) (by decide)) ⟨hx, hb, hml, hown, hts⟩ g_X5_71 hds_X7_copy hK hST hS hP hD hA [5, 3] [0, 1, 2, 4] rfl rfl rfl ⟨Nat.le_of_ble_eq_true rfl, Nat.le_of_ble_eq_true rfl⟩ ⟨Nat.le_of_ble_eq_true rfl, Nat.le_of_ble_eq_true rfl⟩ rfl hl.1 rfl (Nat.le_of_ble_eq_true rfl) dX5_copyFrom_32 (fun u_4 H locs huu hP hD hS => ?_)
  have eu_4 := huu
  have hP : va_P G.1 vwCl (fl [[cArr G oh2 6 o.2.2], [cArr G dh2 6 u_4], [cArr G oh1 6 o.2.1], [cArr G dh1 6 u_2], [(dh0, .inr (8, [.int o.1, .ref dh1, .ref dh2]))], [(oh0, .inr (8, [.int o.1, .ref oh1, .ref oh2]))]]) H := hP
  have hD : va_D A (fl [[cArr G oh2 6 o.2.2], [cArr G dh2 6 u_4], [cArr G oh1 6 o.2.1], [cArr G dh1 6 u_2], [(dh0, .inr (8, [.int o.1, .ref dh1, .ref dh2]))], [(oh0, .inr (8, [.int o.1, .ref oh1, .ref oh2]))]]) := hD
  refine W.eq (g2 := F0 m 35 ls []) rfl ?_
  have hF : f_X5_copyFrom d o = (o.1, u_2, u_4) := by subst eu_4; exact hF
  have hP := fl_sub (cs := [[(dh0, .inr (8, [.int o.1, .ref dh1, .ref dh2]))], [cArr G dh1 6 u_2], [cArr G dh2 6 u_4], [(oh0, .inr (8, [.int o.1, .ref oh1, .ref oh2]))], [cArr G oh1 6 o.2.1], [cArr G oh2 6 o.2.2]]) [4, 3, 1, 5, 2, 0] rfl hP
  have hD := fl_subD (cs := [[(dh0, .inr (8, [.int o.1, .ref dh1, .ref dh2]))], [cArr G dh1 6 u_2], [cArr G dh2 6 u_4], [(oh0, .inr (8, [.int o.1, .ref oh1, .ref oh2]))], [cArr G oh1 6 o.2.1], [cArr G oh2 6 o.2.2]]) [4, 3, 1, 5, 2, 0] rfl rfl hD
  exact w_retV (u := (o.1, u_2, u_4)) hx hb hr hlk hS rfl hF.symm hP hD (Nat.le_of_ble_eq_true rfl) (Nat.le_of_ble_eq_true rfl) dX5_copyFrom_35
