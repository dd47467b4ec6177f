theorem dX1_holds_0 : decode cX1_holds 0 = .ok (.iload_n 1, 1) := by decide +kernel
theorem dX1_holds_1 : decode cX1_holds 1 = .ok (.ifCond .lt 15, 3) := by decide +kernel
theorem dX1_holds_16 : decode cX1_holds 16 = .ok (.iconst 0, 1) := by decide +kernel
theorem dX1_holds_17 : decode cX1_holds 17 = .ok (.ireturn, 1) := by decide +kernel
theorem dX1_holds_4 : decode cX1_holds 4 = .ok (.iload_n 1, 1) := by decide +kernel
theorem dX1_holds_5 : decode cX1_holds 5 = .ok (.aload_n 0, 1) := by decide +kernel
theorem dX1_holds_6 : decode cX1_holds 6 = .ok (.getfield 9, 3) := by decide +kernel
theorem uws_X1 : ∀ w ∈ wsX10, w ∈ UW := uw_all [970, 972, 974, 976] (by decide +kernel) (by decide +kernel)
theorem u_964 : Cond.fieldLink RX1 9 "MoonlitDoors$DayExceptions" "count" "I" ∈ UW := uw 964 (by decide +kernel) rfl
theorem dX1_holds_9 : decode cX1_holds 9 = .ok (.if_icmp .ge 7, 3) := by decide +kernel
theorem dX1_holds_12 : decode cX1_holds 12 = .ok (.iconst 1, 1) := by decide +kernel
theorem dX1_holds_13 : decode cX1_holds 13 = .ok (.goto 4, 3) := by decide +kernel
def f_X1_holds (d : ExV) (i : Int32) : Int32 := (if i < (0 : Int32) then (0 : Int32) else (if d.1 ≤ i then (0 : Int32) else (1 : Int32)))
set_option maxHeartbeats 4000000 in
set_option maxRecDepth 100000 in
theorem c_X1_holds (l : Launch) (G : GG) (dh0 : Nat) (dh1 : Nat) (dh2 : Nat) (dh3 : Nat) (d : ExV) (i : Int32) : rMet l yX1_holds cX1_holds 2 (some .boolean) 1 G (fl [wEx G dh0 dh1 dh2 dh3 d]) [.ref dh0, .int i] (some (.int (f_X1_holds d i))) (narrow .boolean (.int (f_X1_holds d i)) = .int (f_X1_holds d i)) := by
  refine r_start (by decide +kernel) (Nat.le_of_ble_eq_true rfl) ?_
  intro p e s m below meth c hx hb hr hml hts hown hlk hP hK hST ls hl
  have hS : va_S (fun _ => False) s.heap s.heap [] := va_S.rf
  have hown : s.vm.findClass RX1 = some m.cls := hown
  have hl : lv_has ls 2 [(0, .ref dh0), (1, .int i)] := hl
  have hF : f_X1_holds d i = (if i < (0 : Int32) then (0 : Int32) else (if d.1 ≤ i then (0 : Int32) else (1 : Int32))) := rfl
  refine lv_iload_n hx hb dX1_holds_0 rfl (lv_at hl 1 rfl) ?_
  refine lv_if_lt (tgt := 16) hx hb dX1_holds_1 (by decide) (fun c_1 => ?_) (fun c_1 => ?_)
  · have hF := hF.trans (if_pos c_1)
    refine lv_iconst (v := (0 : Int32)) hx hb dX1_holds_16 (by decide) ?_
    exact r_ret hx hb hr hlk rfl (by rw [hF]) (by rw [hF]; exact (rfl : narrow .boolean (.int (0 : Int32)) = .int (0 : Int32))) dX1_holds_17
  · have hF := hF.trans (if_neg c_1)
    refine lv_iload_n hx hb dX1_holds_4 rfl (lv_at hl 1 rfl) ?_
    refine lv_aload_n hx hb dX1_holds_5 rfl (lv_at hl 0 rfl) ?_
    refine va_get (D := G.1) (ci := 5) (v := .int d.1) (C := RX1) (T := TX1) (N := 4) hx hb hts uws_X1 hown hK hP 0 rfl rfl 0 (by decide) (hts _ u_964) (fun _ h9 => h9) rfl dX1_holds_6 ?_
    refine lv_icmp_ge (tgt := 16) hx hb dX1_holds_9 (by decide) (fun c_2 => ?_) (fun c_2 => ?_)
    · have hF := hF.trans (if_pos c_2)
      refine lv_iconst (v := (0 : Int32)) hx hb dX1_holds_16 (by decide) ?_
      exact r_ret hx hb hr hlk rfl (by rw [hF]) (by rw [hF]; exact (rfl : narrow .boolean (.int (0 : Int32)) = .int (0 : Int32))) dX1_holds_17
    · have hF := hF.trans (if_neg c_2)
      refine lv_iconst (v := (1 : Int32)) hx hb dX1_holds_12 (by decide) ?_
      refine lv_goto (tgt := 17) hx hb dX1_holds_13 (by decide) ?_
      exact r_ret hx hb hr hlk rfl (by rw [hF]) (by rw [hF]; exact (rfl : narrow .boolean (.int (1 : Int32)) = .int (1 : Int32))) dX1_holds_17
theorem dX1_doorAt_0 : decode cX1_doorAt 0 = .ok (.aload_n 0, 1) := by decide +kernel
theorem dX1_doorAt_1 : decode cX1_doorAt 1 = .ok (.getfield 15, 3) := by decide +kernel
theorem u_967 : Cond.fieldLink RX1 15 "MoonlitDoors$DayExceptions" "doors" "[I" ∈ UW := uw 967 (by decide +kernel) rfl
theorem dX1_doorAt_4 : decode cX1_doorAt 4 = .ok (.iload_n 1, 1) := by decide +kernel
theorem dX1_doorAt_5 : decode cX1_doorAt 5 = .ok (.invokestatic 25, 3) := by decide +kernel
theorem u_523 : Cond.methodLink RX1 25 yX7_at ∈ UW := uw 523 (by decide +kernel) rfl
theorem g_X1_25 : GoodIn UW (va_wsS RX1 25 yX7_at (wsU yX7_at cX7_at 2 (some .int))) := gS u_523 u_505 u_43 u_506
theorem dX1_doorAt_8 : decode cX1_doorAt 8 = .ok (.ireturn, 1) := by decide +kernel
def f_X1_doorAt (d : ExV) (i : Int32) : Int32 := (f_X7_at 12 d.2.1 i)
set_option maxHeartbeats 4000000 in
set_option maxRecDepth 100000 in
theorem c_X1_doorAt (l : Launch) (G : GG) (dh0 : Nat) (dh1 : Nat) (dh2 : Nat) (dh3 : Nat) (d : ExV) (i : Int32) : rMet l yX1_doorAt cX1_doorAt 2 (some .int) 2 G (fl [wEx G dh0 dh1 dh2 dh3 d]) [.ref dh0, .int i] (some (.int (f_X1_doorAt d i))) (True) := by
  refine r_start (by decide +kernel) (Nat.le_of_ble_eq_true rfl) ?_
  intro p e s m below meth c hx hb hr hml hts hown hlk hP hK hST ls hl
  have hS : va_S (fun _ => False) s.heap s.heap [] := va_S.rf
  have hown : s.vm.findClass RX1 = some m.cls := hown
  have hl : lv_has ls 2 [(0, .ref dh0), (1, .int i)] := hl
  have hF : f_X1_doorAt d i = (f_X7_at 12 d.2.1 i) := rfl
  refine lv_aload_n hx hb dX1_doorAt_0 rfl (lv_at hl 0 rfl) ?_
  refine va_get (D := G.1) (ci := 5) (v := .ref dh1) (C := RX1) (T := TX1) (N := 4) hx hb hts uws_X1 hown hK hP 0 rfl rfl 1 (by decide) (hts _ u_967) (fun _ h9 => h9) rfl dX1_doorAt_1 ?_
  refine lv_iload_n hx hb dX1_doorAt_4 rfl (lv_at hl 1 rfl) ?_
  refine r_S (own := RX1) (v := (some (.int (f_X7_at 12 d.2.1 i)))) (st1 := [.int (f_X7_at 12 d.2.1 i)]) (As := [.ref dh1, .int i]) (rest := []) (c_X7_at l G dh1 12 d.2.1 i (by decide)) ⟨hx, hb, hml, hown, hts⟩ g_X1_25 hds_X7_at hK hST hS hP [1] rfl ⟨Nat.le_of_ble_eq_true rfl, Nat.le_of_ble_eq_true rfl⟩ ⟨Nat.le_of_ble_eq_true rfl, Nat.le_of_ble_eq_true rfl⟩ rfl hl.1 rfl (Nat.le_of_ble_eq_true rfl) dX1_doorAt_5 rfl (fun b_1 => ?_)
  exact r_ret hx hb hr hlk rfl (by rw [hF]) trivial dX1_doorAt_8
theorem dX1_dayAt_0 : decode cX1_dayAt 0 = .ok (.aload_n 0, 1) := by decide +kernel
theorem dX1_dayAt_1 : decode cX1_dayAt 1 = .ok (.getfield 19, 3) := by decide +kernel
theorem u_968 : Cond.fieldLink RX1 19 "MoonlitDoors$DayExceptions" "days" "[I" ∈ UW := uw 968 (by decide +kernel) rfl
theorem dX1_dayAt_4 : decode cX1_dayAt 4 = .ok (.iload_n 1, 1) := by decide +kernel
theorem dX1_dayAt_5 : decode cX1_dayAt 5 = .ok (.invokestatic 25, 3) := by decide +kernel
theorem dX1_dayAt_8 : decode cX1_dayAt 8 = .ok (.ireturn, 1) := by decide +kernel
def f_X1_dayAt (d : ExV) (i : Int32) : Int32 := (f_X7_at 12 d.2.2.1 i)
set_option maxHeartbeats 4000000 in
set_option maxRecDepth 100000 in
theorem c_X1_dayAt (l : Launch) (G : GG) (dh0 : Nat) (dh1 : Nat) (dh2 : Nat) (dh3 : Nat) (d : ExV) (i : Int32) : rMet l yX1_dayAt cX1_dayAt 2 (some .int) 2 G (fl [wEx G dh0 dh1 dh2 dh3 d]) [.ref dh0, .int i] (some (.int (f_X1_dayAt d i))) (True) := by
  refine r_start (by decide +kernel) (Nat.le_of_ble_eq_true rfl) ?_
  intro p e s m below meth c hx hb hr hml hts hown hlk hP hK hST ls hl
  have hS : va_S (fun _ => False) s.heap s.heap [] := va_S.rf
  have hown : s.vm.findClass RX1 = some m.cls := hown
  have hl : lv_has ls 2 [(0, .ref dh0), (1, .int i)] := hl
  have hF : f_X1_dayAt d i = (f_X7_at 12 d.2.2.1 i) := rfl
  refine lv_aload_n hx hb dX1_dayAt_0 rfl (lv_at hl 0 rfl) ?_
  refine va_get (D := G.1) (ci := 5) (v := .ref dh2) (C := RX1) (T := TX1) (N := 4) hx hb hts uws_X1 hown hK hP 0 rfl rfl 2 (by decide) (hts _ u_968) (fun _ h9 => h9) rfl dX1_dayAt_1 ?_
  refine lv_iload_n hx hb dX1_dayAt_4 rfl (lv_at hl 1 rfl) ?_
  refine r_S (own := RX1) (v := (some (.int (f_X7_at 12 d.2.2.1 i)))) (st1 := [.int (f_X7_at 12 d.2.2.1 i)]) (As := [.ref dh2, .int i]) (rest := []) (c_X7_at l G dh2 12 d.2.2.1 i (by decide)) ⟨hx, hb, hml, hown, hts⟩ g_X1_25 hds_X7_at hK hST hS hP [2] rfl ⟨Nat.le_of_ble_eq_true rfl, Nat.le_of_ble_eq_true rfl⟩ ⟨Nat.le_of_ble_eq_true rfl, Nat.le_of_ble_eq_true rfl⟩ rfl hl.1 rfl (Nat.le_of_ble_eq_true rfl) dX1_dayAt_5 rfl (fun b_1 => ?_)
  exact r_ret hx hb hr hlk rfl (by rw [hF]) trivial dX1_dayAt_8
theorem dX1_effectAt_0 : decode cX1_effectAt 0 = .ok (.aload_n 0, 1) := by decide +kernel
theorem dX1_effectAt_1 : decode cX1_effectAt 1 = .ok (.iload_n 1, 1) := by decide +kernel
theorem dX1_effectAt_2 : decode cX1_effectAt 2 = .ok (.invokevirtual 31, 3) := by decide +kernel
theorem u_528 : Cond.methodLink RX1 31 yX1_holds ∈ UW := uw 528 (by decide +kernel) rfl
theorem u_529 : Cond.instanceMethod yX1_holds ∈ UW := uw 529 (by decide +kernel) rfl
theorem u_530 : Cond.selects RX1 yX1_holds yX1_holds ∈ UW := uw 530 (by decide +kernel) rfl
theorem u_24 : Cond.initialized RX1 ∈ UW := uw 24 (by decide +kernel) rfl
theorem u_531 : Cond.code yX1_holds cX1_holds 2 (some .boolean) ∈ UW := uw 531 (by decide +kernel) rfl
theorem g_X1_31 : GoodIn UW (wsV RX1 31 RX1 yX1_holds (wsU yX1_holds cX1_holds 2 (some .boolean))) := gV u_528 u_529 u_530 u_24 u_531
theorem hdv_X1_holds : yX1_holds.cls = RX1 ∧ yX1_holds.cls ≠ "java/lang/invoke/MethodHandle" ∧ yX1_holds.cls ≠ "java/lang/invoke/VarHandle" ∧ (parseMethodDescriptor yX1_holds.desc).map (fun d => d.parameters.length) = some 1 := by decide +kernel
theorem dX1_effectAt_5 : decode cX1_effectAt 5 = .ok (.ifCond .eq 14, 3) := by decide +kernel
theorem dX1_effectAt_19 : decode cX1_effectAt 19 = .ok (.iconst 0, 1) := by decide +kernel
theorem dX1_effectAt_20 : decode cX1_effectAt 20 = .ok (.ireturn, 1) := by decide +kernel
theorem dX1_effectAt_8 : decode cX1_effectAt 8 = .ok (.aload_n 0, 1) := by decide +kernel
theorem dX1_effectAt_9 : decode cX1_effectAt 9 = .ok (.getfield 22, 3) := by decide +kernel
theorem u_969 : Cond.fieldLink RX1 22 "MoonlitDoors$DayExceptions" "effects" "[I" ∈ UW := uw 969 (by decide +kernel) rfl
theorem dX1_effectAt_12 : decode cX1_effectAt 12 = .ok (.iload_n 1, 1) := by decide +kernel
theorem dX1_effectAt_13 : decode cX1_effectAt 13 = .ok (.invokestatic 25, 3) := by decide +kernel
theorem dX1_effectAt_16 : decode cX1_effectAt 16 = .ok (.goto 4, 3) := by decide +kernel
def f_X1_effectAt (d : ExV) (i : Int32) : Int32 := (if (f_X1_holds d i) = (0 : Int32) then (0 : Int32) else (f_X7_at 12 d.2.2.2 i))
set_option maxHeartbeats 4000000 in
set_option maxRecDepth 100000 in
theorem c_X1_effectAt (l : Launch) (G : GG) (dh0 : Nat) (dh1 : Nat) (dh2 : Nat) (dh3 : Nat) (d : ExV) (i : Int32) : rMet l yX1_effectAt cX1_effectAt 2 (some .int) 2 G (fl [wEx G dh0 dh1 dh2 dh3 d]) [.ref dh0, .int i] (some (.int (f_X1_effectAt d i))) (True) := by
  refine r_start (by decide +kernel) (Nat.le_of_ble_eq_true rfl) ?_
  intro p e s m below meth c hx hb hr hml hts hown hlk hP hK hST ls hl
  have hS : va_S (fun _ => False) s.heap s.heap [] := va_S.rf
  have hown : s.vm.findClass RX1 = some m.cls := hown
  have hl : lv_has ls 2 [(0, .ref dh0), (1, .int i)] := hl
  have hF : f_X1_effectAt d i = (if (f_X1_holds d i) = (0 : Int32) then (0 : Int32) else (f_X7_at 12 d.2.2.2 i)) := rfl
  refine lv_aload_n hx hb dX1_effectAt_0 rfl (lv_at hl 0 rfl) ?_
  refine lv_iload_n hx hb dX1_effectAt_1 rfl (lv_at hl 1 rfl) ?_
  refine r_V (own := RX1) (v := (some (.int (f_X1_holds d i)))) (st1 := [.int (f_X1_holds d i)]) (As := [.int i]) (rest := []) (c_X1_holds l G dh0 dh1 dh2 dh3 d i) ⟨hx, hb, hml, hown, hts⟩ g_X1_31 hdv_X1_holds hK hST hS hP [0, 1, 2, 3] rfl (k0 := 0) rfl rfl rfl ⟨Nat.le_of_ble_eq_true rfl, Nat.le_of_ble_eq_true rfl⟩ ⟨Nat.le_of_ble_eq_true rfl, Nat.le_of_ble_eq_true rfl⟩ rfl hl.1 rfl (Nat.le_of_ble_eq_true rfl) dX1_effectAt_2 rfl (fun b_1 => ?_)
  refine lv_if_eq (tgt := 19) hx hb dX1_effectAt_5 (by decide) (fun c_2 => ?_) (fun c_2 => ?_)
  · have hF := hF.trans (if_pos c_2)
    refine lv_iconst (v := (0 : Int32)) hx hb dX1_effectAt_19 (by decide) ?_
    exact r_ret hx hb hr hlk rfl (by rw [hF]) trivial dX1_effectAt_20
  · have hF := hF.trans (if_neg c_2)
    refine lv_aload_n hx hb dX1_effectAt_8 rfl (lv_at hl 0 rfl) ?_
    refine va_get (D := G.1) (ci := 5) (v := .ref dh3) (C := RX1) (T := TX1) (N := 4) hx hb hts uws_X1 hown hK hP 0 rfl rfl 3 (by decide) (hts _ u_969) (fun _ h9 => h9) rfl dX1_effectAt_9 ?_
    refine lv_iload_n hx hb dX1_effectAt_12 rfl (lv_at hl 1 rfl) ?_
    refine r_S (own := RX1) (v := (some (.int (f_X7_at 12 d.2.2.2 i)))) (st1 := [.int (f_X7_at 12 d.2.2.2 i)]) (As := [.ref dh3, .int i]) (rest := []) (c_X7_at l G dh3 12 d.2.2.2 i (by decide)) ⟨hx, hb, hml, hown, hts⟩ g_X1_25 hds_X7_at hK hST hS hP [3] rfl ⟨Nat.le_of_ble_eq_true rfl, Nat.le_of_ble_eq_true rfl⟩ ⟨Nat.le_of_ble_eq_true rfl, Nat.le_of_ble_eq_true rfl⟩ rfl hl.1 rfl (Nat.le_of_ble_eq_true rfl) dX1_effectAt_13 rfl (fun b_3 => ?_)
    refine lv_goto (tgt := 20) hx hb dX1_effectAt_16 (by decide) ?_
    exact r_ret hx hb hr hlk rfl (by rw [hF]) trivial dX1_effectAt_20
theorem dX1_positionOf_0 : decode cX1_positionOf 0 = .ok (.iconst 0, 1) := by decide +kernel
theorem dX1_positionOf_1 : decode cX1_positionOf 1 = .ok (.istore_n 3, 1) := by decide +kernel
theorem dX1_positionOf_2 : decode cX1_positionOf 2 = .ok (.iload_n 3, 1) := by decide +kernel
theorem dX1_positionOf_3 : decode cX1_positionOf 3 = .ok (.aload_n 0, 1) := by decide +kernel
theorem dX1_positionOf_4 : decode cX1_positionOf 4 = .ok (.getfield 9, 3) := by decide +kernel
theorem dX1_positionOf_7 : decode cX1_positionOf 7 = .ok (.if_icmp .ge 35, 3) := by decide +kernel
theorem dX1_positionOf_42 : decode cX1_positionOf 42 = .ok (.iconst (-1), 1) := by decide +kernel
theorem dX1_positionOf_43 : decode cX1_positionOf 43 = .ok (.ireturn, 1) := by decide +kernel
theorem dX1_positionOf_10 : decode cX1_positionOf 10 = .ok (.aload_n 0, 1) := by decide +kernel
theorem dX1_positionOf_11 : decode cX1_positionOf 11 = .ok (.getfield 19, 3) := by decide +kernel
theorem dX1_positionOf_14 : decode cX1_positionOf 14 = .ok (.iload_n 3, 1) := by decide +kernel
theorem dX1_positionOf_15 : decode cX1_positionOf 15 = .ok (.invokestatic 25, 3) := by decide +kernel
theorem dX1_positionOf_18 : decode cX1_positionOf 18 = .ok (.iload_n 2, 1) := by decide +kernel
theorem dX1_positionOf_19 : decode cX1_positionOf 19 = .ok (.if_icmp .ne 17, 3) := by decide +kernel
theorem dX1_positionOf_36 : decode cX1_positionOf 36 = .ok (.iinc 3 1, 3) := by decide +kernel
theorem dX1_positionOf_39 : decode cX1_positionOf 39 = .ok (.goto (-37), 3) := by decide +kernel
theorem dX1_positionOf_22 : decode cX1_positionOf 22 = .ok (.aload_n 0, 1) := by decide +kernel
theorem dX1_positionOf_23 : decode cX1_positionOf 23 = .ok (.getfield 15, 3) := by decide +kernel
theorem dX1_positionOf_26 : decode cX1_positionOf 26 = .ok (.iload_n 3, 1) := by decide +kernel
theorem dX1_positionOf_27 : decode cX1_positionOf 27 = .ok (.invokestatic 25, 3) := by decide +kernel
theorem dX1_positionOf_30 : decode cX1_positionOf 30 = .ok (.iload_n 1, 1) := by decide +kernel
theorem dX1_positionOf_31 : decode cX1_positionOf 31 = .ok (.if_icmp .ne 5, 3) := by decide +kernel
theorem dX1_positionOf_34 : decode cX1_positionOf 34 = .ok (.iload_n 3, 1) := by decide +kernel
theorem dX1_positionOf_35 : decode cX1_positionOf 35 = .ok (.ireturn, 1) := by decide +kernel
def lp_X1_positionOf_2 (d : ExV) (dr : Int32) (dy : Int32) : Nat → Int32 → Int32
  | 0, _ => 0
  | n + 1, x3 => (if d.1 ≤ x3 then (-1 : Int32) else (if (f_X7_at 12 d.2.2.1 x3) = dy then (if (f_X7_at 12 d.2.1 x3) = dr then x3 else (lp_X1_positionOf_2 d dr dy n (x3 + 1))) else (lp_X1_positionOf_2 d dr dy n (x3 + 1))))
def f_X1_positionOf (d : ExV) (dr : Int32) (dy : Int32) : Int32 := (lp_X1_positionOf_2 d dr dy (((d.1).toInt - ((0 : Int32)).toInt).toNat + 1) (0 : Int32))
set_option maxHeartbeats 4000000 in
set_option maxRecDepth 100000 in
theorem c_X1_positionOf (l : Launch) (G : GG) (dh0 : Nat) (dh1 : Nat) (dh2 : Nat) (dh3 : Nat) (d : ExV) (dr : Int32) (dy : Int32) : rMet l yX1_positionOf cX1_positionOf 4 (some .int) 2 G (fl [wEx G dh0 dh1 dh2 dh3 d]) [.ref dh0, .int dr, .int dy] (some (.int (f_X1_positionOf d dr dy))) (True) := by
  refine r_start (by decide +kernel) (Nat.le_of_ble_eq_true rfl) ?_
  intro p e s m below meth c hx hb hr hml hts hown hlk hP hK hST ls hl
  have hS : va_S (fun _ => False) s.heap s.heap [] := va_S.rf
  have hown : s.vm.findClass RX1 = some m.cls := hown
  have hl : lv_has ls 4 [(0, .ref dh0), (1, .int dr), (2, .int dy)] := hl
  have hF : f_X1_positionOf d dr dy = (lp_X1_positionOf_2 d dr dy (((d.1).toInt - ((0 : Int32)).toInt).toNat + 1) (0 : Int32)) := rfl
  refine lv_iconst (v := (0 : Int32)) hx hb dX1_positionOf_0 (by decide) ?_
  refine lv_istore_n (lv' := [(3, .int (0 : Int32)), (0, .ref dh0), (1, .int dr), (2, .int dy)]) hx hb dX1_positionOf_1 rfl hl (by decide) rfl (fun ls hl => ?_)
  have L2 : ∀ (n : Nat) (x3 : Int32) (ls : Array Slot), lv_has ls 4 [(3, .int x3), (0, .ref dh0), (1, .int dr), (2, .int dy)] → (upI x3 d.1 n) → f_X1_positionOf d dr dy = lp_X1_positionOf_2 d dr dy n x3 → W p l e (rmd 2 0 0) s m ([.ref dh0, .int dr, .int dy] : List Value).toArray below meth c s.heap [] 0 0 (MQ below (rQ (some (.int (f_X1_positionOf d dr dy))) (True)) ([.ref dh0, .int dr, .int dy] : List Value).toArray s 0 0 (fun _ => False)) (F0 m 2 ls []) := by
    intro n
    induction n with
    | zero => intro x3 ls hl hu; exact absurd hu (upI_0)
    | succ n ih =>
      intro x3 ls hl hu hF
      have hF : f_X1_positionOf d dr dy = (if d.1 ≤ x3 then (-1 : Int32) else (if (f_X7_at 12 d.2.2.1 x3) = dy then (if (f_X7_at 12 d.2.1 x3) = dr then x3 else (lp_X1_positionOf_2 d dr dy n (x3 + 1))) else (lp_X1_positionOf_2 d dr dy n (x3 + 1)))) := hF
      refine lv_iload_n hx hb dX1_positionOf_2 rfl (lv_at hl 0 rfl) ?_
      refine lv_aload_n hx hb dX1_positionOf_3 rfl (lv_at hl 1 rfl) ?_
      refine va_get (D := G.1) (ci := 5) (v := .int d.1) (C := RX1) (T := TX1) (N := 4) hx hb hts uws_X1 hown hK hP 0 rfl rfl 0 (by decide) (hts _ u_964) (fun _ h9 => h9) rfl dX1_positionOf_4 ?_
      refine lv_icmp_ge (tgt := 42) hx hb dX1_positionOf_7 (by decide) (fun c_1 => ?_) (fun c_1 => ?_)
      · have hF := hF.trans (if_pos c_1)
        refine lv_iconst (v := (-1 : Int32)) hx hb dX1_positionOf_42 (by decide) ?_
        exact r_ret hx hb hr hlk rfl (by rw [hF]) trivial dX1_positionOf_43
      · have hF := hF.trans (if_neg c_1)
        refine lv_aload_n hx hb dX1_positionOf_10 rfl (lv_at hl 1 rfl) ?_
        refine va_get (D := G.1) (ci := 5) (v := .ref dh2) (C := RX1) (T := TX1) (N := 4) hx hb hts uws_X1 hown hK hP 0 rfl rfl 2 (by decide) (hts _ u_968) (fun _ h9 => h9) rfl dX1_positionOf_11 ?_
        refine lv_iload_n hx hb dX1_positionOf_14 rfl (lv_at hl 0 rfl) ?_
        refine r_S (own := RX1) (v := (some (.int (f_X7_at 12 d.2.2.1 x3)))) (st1 := [.int (f_X7_at 12 d.2.2.1 x3)]) (As := [.ref dh2, .int x3]) (rest := []) (c_X7_at l G dh2 12 d.2.2.1 x3 (by decide)) ⟨hx, hb, hml, hown, hts⟩ g_X1_25 hds_X7_at hK hST hS hP [2] rfl ⟨Nat.le_of_ble_eq_true rfl, Nat.le_of_ble_eq_true rfl⟩ ⟨Nat.le_of_ble_eq_true rfl, Nat.le_of_ble_eq_true rfl⟩ rfl hl.1 rfl (Nat.le_of_ble_eq_true rfl) dX1_positionOf_15 rfl (fun b_2 => ?_)
        refine lv_iload_n hx hb dX1_positionOf_18 rfl (lv_at hl 3 rfl) ?_
        refine lv_icmp_ne (tgt := 36) hx hb dX1_positionOf_19 (by decide) (fun c_3 => ?_) (fun c_3 => ?_)
        · have hF := hF.trans (if_neg c_3)
          refine lv_iinc (v := (x3 + 1)) (lv' := [(3, .int (x3 + 1)), (0, .ref dh0), (1, .int dr), (2, .int dy)]) hx hb dX1_positionOf_36 hl (k := 0) rfl rfl (by decide) rfl (fun ls hl => ?_)
          refine lv_goto (tgt := 2) hx hb dX1_positionOf_39 (by decide) ?_
          exact ih (x3 + 1) ls (lv_sub hl [0, 1, 2, 3] rfl) (upI_s (Int32.not_le.mp c_1) hu) hF
        · have hF := hF.trans (if_pos c_3)
          refine lv_aload_n hx hb dX1_positionOf_22 rfl (lv_at hl 1 rfl) ?_
          refine va_get (D := G.1) (ci := 5) (v := .ref dh1) (C := RX1) (T := TX1) (N := 4) hx hb hts uws_X1 hown hK hP 0 rfl rfl 1 (by decide) (hts _ u_967) (fun _ h9 => h9) rfl dX1_positionOf_23 ?_
          refine lv_iload_n hx hb dX1_positionOf_26 rfl (lv_at hl 0 rfl) ?_
          refine r_S (own := RX1) (v := (some (.int (f_X7_at 12 d.2.1 x3)))) (st1 := [.int (f_X7_at 12 d.2.1 x3)]) (As := [.ref dh1, .int x3]) (rest := []) (c_X7_at l G dh1 12 d.2.1 x3 (by decide)) ⟨hx, hb, hml, hown, hts⟩ g_X1_25 hds_X7_at hK hST hS hP [1] rfl ⟨Nat.le_of_ble_eq_true rfl, Nat.le_of_ble_eq_true rfl⟩ ⟨Nat.le_of_ble_eq_true rfl, Nat.le_of_ble_eq_true rfl⟩ rfl hl.1 rfl (Nat.le_of_ble_eq_true rfl) dX1_positionOf_27 rfl (fun b_4 => ?_)
          refine lv_iload_n hx hb dX1_positionOf_30 rfl (lv_at hl 2 rfl) ?_
          refine lv_icmp_ne (tgt := 36) hx hb dX1_positionOf_31 (by decide) (fun c_5 => ?_) (fun c_5 => ?_)
          · have hF := hF.trans (if_neg c_5)
            refine lv_iinc (v := (x3 + 1)) (lv' := [(3, .int (x3 + 1)), (0, .ref dh0), (1, .int dr), (2, .int dy)]) hx hb dX1_positionOf_36 hl (k := 0) rfl rfl (by decide) rfl (fun ls hl => ?_)
            refine lv_goto (tgt := 2) hx hb dX1_positionOf_39 (by decide) ?_
            exact ih (x3 + 1) ls (lv_sub hl [0, 1, 2, 3] rfl) (upI_s (Int32.not_le.mp c_1) hu) hF
          · have hF := hF.trans (if_pos c_5)
            refine lv_iload_n hx hb dX1_positionOf_34 rfl (lv_at hl 0 rfl) ?_
            exact r_ret hx hb hr hlk rfl (by rw [hF]) trivial dX1_positionOf_35
  exact L2 (((d.1).toInt - ((0 : Int32)).toInt).toNat + 1) (0 : Int32) ls (lv_sub hl [0, 1, 2, 3] rfl) (upI_i) hF
theorem dX1_isAfter_0 : decode cX1_isAfter 0 = .ok (.aload_n 0, 1) := by decide +kernel
theorem dX1_isAfter_1 : decode cX1_isAfter 1 = .ok (.getfield 19, 3) := by decide +kernel
theorem dX1_isAfter_4 : decode cX1_isAfter 4 = .ok (.iload_n 1, 1) := by decide +kernel
theorem dX1_isAfter_5 : decode cX1_isAfter 5 = .ok (.invokestatic 25, 3) := by decide +kernel
theorem dX1_isAfter_8 : decode cX1_isAfter 8 = .ok (.istore 4, 2) := by decide +kernel
theorem dX1_isAfter_10 : decode cX1_isAfter 10 = .ok (.iload 4, 2) := by decide +kernel
theorem dX1_isAfter_12 : decode cX1_isAfter 12 = .ok (.iload_n 3, 1) := by decide +kernel
theorem dX1_isAfter_13 : decode cX1_isAfter 13 = .ok (.if_icmp .gt 21, 3) := by decide +kernel
theorem dX1_isAfter_34 : decode cX1_isAfter 34 = .ok (.iconst 1, 1) := by decide +kernel
theorem dX1_isAfter_35 : decode cX1_isAfter 35 = .ok (.goto 4, 3) := by decide +kernel
theorem dX1_isAfter_39 : decode cX1_isAfter 39 = .ok (.ireturn, 1) := by decide +kernel
theorem dX1_isAfter_16 : decode cX1_isAfter 16 = .ok (.iload 4, 2) := by decide +kernel
theorem dX1_isAfter_18 : decode cX1_isAfter 18 = .ok (.iload_n 3, 1) := by decide +kernel
theorem dX1_isAfter_19 : decode cX1_isAfter 19 = .ok (.if_icmp .ne 19, 3) := by decide +kernel
theorem dX1_isAfter_38 : decode cX1_isAfter 38 = .ok (.iconst 0, 1) := by decide +kernel
theorem dX1_isAfter_22 : decode cX1_isAfter 22 = .ok (.aload_n 0, 1) := by decide +kernel
theorem dX1_isAfter_23 : decode cX1_isAfter 23 = .ok (.getfield 15, 3) := by decide +kernel
theorem dX1_isAfter_26 : decode cX1_isAfter 26 = .ok (.iload_n 1, 1) := by decide +kernel
theorem dX1_isAfter_27 : decode cX1_isAfter 27 = .ok (.invokestatic 25, 3) := by decide +kernel
theorem dX1_isAfter_30 : decode cX1_isAfter 30 = .ok (.iload_n 2, 1) := by decide +kernel
theorem dX1_isAfter_31 : decode cX1_isAfter 31 = .ok (.if_icmp .le 7, 3) := by decide +kernel
def f_X1_isAfter (d : ExV) (i : Int32) (dr : Int32) (dy : Int32) : Int32 := (if dy < (f_X7_at 12 d.2.2.1 i) then (1 : Int32) else (if (f_X7_at 12 d.2.2.1 i) = dy then (if (f_X7_at 12 d.2.1 i) ≤ dr then (0 : Int32) else (1 : Int32)) else (0 : Int32)))
set_option maxHeartbeats 4000000 in
set_option maxRecDepth 100000 in
theorem c_X1_isAfter (l : Launch) (G : GG) (dh0 : Nat) (dh1 : Nat) (dh2 : Nat) (dh3 : Nat) (d : ExV) (i : Int32) (dr : Int32) (dy : Int32) : rMet l yX1_isAfter cX1_isAfter 5 (some .boolean) 2 G (fl [wEx G dh0 dh1 dh2 dh3 d]) [.ref dh0, .int i, .int dr, .int dy] (some (.int (f_X1_isAfter d i dr dy))) (narrow .boolean (.int (f_X1_isAfter d i dr dy)) = .int (f_X1_isAfter d i dr dy)) := by
  refine r_start (by decide +kernel) (Nat.le_of_ble_eq_true rfl) ?_
  intro p e s m below meth c hx hb hr hml hts hown hlk hP hK hST ls hl
  have hS : va_S (fun _ => False) s.heap s.heap [] := va_S.rf
  have hown : s.vm.findClass RX1 = some m.cls := hown
  have hl : lv_has ls 5 [(0, .ref dh0), (1, .int i), (2, .int dr), (3, .int dy)] := hl
  have hF : f_X1_isAfter d i dr dy = (if dy < (f_X7_at 12 d.2.2.1 i) then (1 : Int32) else (if (f_X7_at 12 d.2.2.1 i) = dy then (if (f_X7_at 12 d.2.1 i) ≤ dr then (0 : Int32) else (1 : Int32)) else (0 : Int32))) := rfl
  refine lv_aload_n hx hb dX1_isAfter_0 rfl (lv_at hl 0 rfl) ?_
  refine va_get (D := G.1) (ci := 5) (v := .ref dh2) (C := RX1) (T := TX1) (N := 4) hx hb hts uws_X1 hown hK hP 0 rfl rfl 2 (by decide) (hts _ u_968) (fun _ h9 => h9) rfl dX1_isAfter_1 ?_
  refine lv_iload_n hx hb dX1_isAfter_4 rfl (lv_at hl 1 rfl) ?_
  refine r_S (own := RX1) (v := (some (.int (f_X7_at 12 d.2.2.1 i)))) (st1 := [.int (f_X7_at 12 d.2.2.1 i)]) (As := [.ref dh2, .int i]) (rest := []) (c_X7_at l G dh2 12 d.2.2.1 i (by decide)) ⟨hx, hb, hml, hown, hts⟩ g_X1_25 hds_X7_at hK hST hS hP [2] rfl ⟨Nat.le_of_ble_eq_true rfl, Nat.le_of_ble_eq_true rfl⟩ ⟨Nat.le_of_ble_eq_true rfl, Nat.le_of_ble_eq_true rfl⟩ rfl hl.1 rfl (Nat.le_of_ble_eq_true rfl) dX1_isAfter_5 rfl (fun b_1 => ?_)
  refine lv_istore (lv' := [(4, .int (f_X7_at 12 d.2.2.1 i)), (0, .ref dh0), (1, .int i), (2, .int dr), (3, .int dy)]) hx hb dX1_isAfter_8 hl (by decide) rfl (fun ls hl => ?_)
  refine lv_iload hx hb dX1_isAfter_10 (lv_at hl 0 rfl) ?_
  refine lv_iload_n hx hb dX1_isAfter_12 rfl (lv_at hl 4 rfl) ?_
  refine lv_icmp_gt (tgt := 34) hx hb dX1_isAfter_13 (by decide) (fun c_2 => ?_) (fun c_2 => ?_)
  · have hF := hF.trans (if_pos c_2)
    refine lv_iconst (v := (1 : Int32)) hx hb dX1_isAfter_34 (by decide) ?_
    refine lv_goto (tgt := 39) hx hb dX1_isAfter_35 (by decide) ?_
    exact r_ret hx hb hr hlk rfl (by rw [hF]) (by rw [hF]; exact (rfl : narrow .boolean (.int (1 : Int32)) = .int (1 : Int32))) dX1_isAfter_39
  · have hF := hF.trans (if_neg c_2)
    refine lv_iload hx hb dX1_isAfter_16 (lv_at hl 0 rfl) ?_
    refine lv_iload_n hx hb dX1_isAfter_18 rfl (lv_at hl 4 rfl) ?_
    refine lv_icmp_ne (tgt := 38) hx hb dX1_isAfter_19 (by decide) (fun c_3 => ?_) (fun c_3 => ?_)
    · have hF := hF.trans (if_neg c_3)
      refine lv_iconst (v := (0 : Int32)) hx hb dX1_isAfter_38 (by decide) ?_
      exact r_ret hx hb hr hlk rfl (by rw [hF]) (by rw [hF]; exact (rfl : narrow .boolean (.int (0 : Int32)) = .int (0 : Int32))) dX1_isAfter_39
    · have hF := hF.trans (if_pos c_3)
      refine lv_aload_n hx hb dX1_isAfter_22 rfl (lv_at hl 1 rfl) ?_
      refine va_get (D := G.1) (ci := 5) (v := .ref dh1) (C := RX1) (T := TX1) (N := 4) hx hb hts uws_X1 hown hK hP 0 rfl rfl 1 (by decide) (hts _ u_967) (fun _ h9 => h9) rfl dX1_isAfter_23 ?_
      refine lv_iload_n hx hb dX1_isAfter_26 rfl (lv_at hl 2 rfl) ?_
      refine r_S (own := RX1) (v := (some (.int (f_X7_at 12 d.2.1 i)))) (st1 := [.int (f_X7_at 12 d.2.1 i)]) (As := [.ref dh1, .int i]) (rest := []) (c_X7_at l G dh1 12 d.2.1 i (by decide)) ⟨hx, hb, hml, hown, hts⟩ g_X1_25 hds_X7_at hK hST hS hP [1] rfl ⟨Nat.le_of_ble_eq_true rfl, Nat.le_of_ble_eq_true rfl⟩ ⟨Nat.le_of_ble_eq_true rfl, Nat.le_of_ble_eq_true rfl⟩ rfl hl.1 rfl (Nat.le_of_ble_eq_true rfl) dX1_isAfter_27 rfl (fun b_4 => ?_)
      refine lv_iload_n hx hb dX1_isAfter_30 rfl (lv_at hl 3 rfl) ?_
      refine lv_icmp_le (tgt := 38) hx hb dX1_isAfter_31 (by decide) (fun c_5 => ?_) (fun c_5 => ?_)
      · have hF := hF.trans (if_pos c_5)
        refine lv_iconst (v := (0 : Int32)) hx hb dX1_isAfter_38 (by decide) ?_
        exact r_ret hx hb hr hlk rfl (by rw [hF]) (by rw [hF]; exact (rfl : narrow .boolean (.int (0 : Int32)) = .int (0 : Int32))) dX1_isAfter_39
      · have hF := hF.trans (if_neg c_5)
        refine lv_iconst (v := (1 : Int32)) hx hb dX1_isAfter_34 (by decide) ?_
        refine lv_goto (tgt := 39) hx hb dX1_isAfter_35 (by decide) ?_
        exact r_ret hx hb hr hlk rfl (by rw [hF]) (by rw [hF]; exact (rfl : narrow .boolean (.int (1 : Int32)) = .int (1 : Int32))) dX1_isAfter_39
theorem dX1_move_0 : decode cX1_move 0 = .ok (.aload_n 0, 1) := by decide +kernel
theorem dX1_move_1 : decode cX1_move 1 = .ok (.getfield 15, 3) := by decide +kernel
theorem dX1_move_4 : decode cX1_move 4 = .ok (.iload_n 2, 1) := by decide +kernel
theorem dX1_move_5 : decode cX1_move 5 = .ok (.aload_n 0, 1) := by decide +kernel
theorem dX1_move_6 : decode cX1_move 6 = .ok (.getfield 15, 3) := by decide +kernel
theorem dX1_move_9 : decode cX1_move 9 = .ok (.iload_n 1, 1) := by decide +kernel
theorem dX1_move_10 : decode cX1_move 10 = .ok (.invokestatic 25, 3) := by decide +kernel
theorem dX1_move_13 : decode cX1_move 13 = .ok (.invokestatic 43, 3) := by decide +kernel
theorem u_701 : Cond.methodLink RX1 43 yX7_put ∈ UW := uw 701 (by decide +kernel) rfl
theorem g_X1_43 : GoodIn UW (va_wsS RX1 43 yX7_put (wsU yX7_put cX7_put 3 none)) := gS u_701 u_702 u_43 u_703
theorem dX1_move_16 : decode cX1_move 16 = .ok (.aload_n 0, 1) := by decide +kernel
theorem dX1_move_17 : decode cX1_move 17 = .ok (.getfield 19, 3) := by decide +kernel
theorem dX1_move_20 : decode cX1_move 20 = .ok (.iload_n 2, 1) := by decide +kernel
theorem dX1_move_21 : decode cX1_move 21 = .ok (.aload_n 0, 1) := by decide +kernel
theorem dX1_move_22 : decode cX1_move 22 = .ok (.getfield 19, 3) := by decide +kernel
theorem dX1_move_25 : decode cX1_move 25 = .ok (.iload_n 1, 1) := by decide +kernel
theorem dX1_move_26 : decode cX1_move 26 = .ok (.invokestatic 25, 3) := by decide +kernel
theorem dX1_move_29 : decode cX1_move 29 = .ok (.invokestatic 43, 3) := by decide +kernel
theorem dX1_move_32 : decode cX1_move 32 = .ok (.aload_n 0, 1) := by decide +kernel
theorem dX1_move_33 : decode cX1_move 33 = .ok (.getfield 22, 3) := by decide +kernel
theorem dX1_move_36 : decode cX1_move 36 = .ok (.iload_n 2, 1) := by decide +kernel
theorem dX1_move_37 : decode cX1_move 37 = .ok (.aload_n 0, 1) := by decide +kernel
theorem dX1_move_38 : decode cX1_move 38 = .ok (.getfield 22, 3) := by decide +kernel
theorem dX1_move_41 : decode cX1_move 41 = .ok (.iload_n 1, 1) := by decide +kernel
theorem dX1_move_42 : decode cX1_move 42 = .ok (.invokestatic 25, 3) := by decide +kernel
theorem dX1_move_45 : decode cX1_move 45 = .ok (.invokestatic 43, 3) := by decide +kernel
theorem dX1_move_48 : decode cX1_move 48 = .ok (.return_, 1) := by decide +kernel
def f_X1_move (d : ExV) (i : Int32) (j : Int32) : ExV := (let u_3 : (Nat → Int32) := (f_X7_put 12 d.2.1 j (f_X7_at 12 d.2.1 i)); (let u_6 : (Nat → Int32) := (f_X7_put 12 d.2.2.1 j (f_X7_at 12 d.2.2.1 i)); (let u_9 : (Nat → Int32) := (f_X7_put 12 d.2.2.2 j (f_X7_at 12 d.2.2.2 i)); (d.1, u_3, u_6, u_9))))
set_option maxHeartbeats 4000000 in
set_option maxRecDepth 100000 in
theorem c_X1_move (l : Launch) (G : GG) (dh0 : Nat) (dh1 : Nat) (dh2 : Nat) (dh3 : Nat) (sz : Nat) (d : ExV) (i : Int32) (j : Int32) : wMet l yX1_move cX1_move 3 none 2 0 0 G (fl [wEx G dh0 dh1 dh2 dh3 d]) [.ref dh0, .int i, .int j] sz (fun u : ExV => none) (fun u : ExV => u = f_X1_move d i j) (fun u : ExV => fl [wEx G dh0 dh1 dh2 dh3 u]) := by
  refine w_start (by decide +kernel) (Nat.le_of_ble_eq_true rfl) ?_
  intro p e s m below meth c A hx hb hr hml hts hown hlk hin hP hD hA hK hST ls hl
  have hS : va_S A s.heap s.heap [] := va_S.rf
  have hown : s.vm.findClass RX1 = some m.cls := hown
  have hl : lv_has ls 3 [(0, .ref dh0), (1, .int i), (2, .int j)] := hl
  have hF : f_X1_move d i j = (let u_3 : (Nat → Int32) := (f_X7_put 12 d.2.1 j (f_X7_at 12 d.2.1 i)); (let u_6 : (Nat → Int32) := (f_X7_put 12 d.2.2.1 j (f_X7_at 12 d.2.2.1 i)); (let u_9 : (Nat → Int32) := (f_X7_put 12 d.2.2.2 j (f_X7_at 12 d.2.2.2 i)); (d.1, u_3, u_6, u_9)))) := rfl
  refine lv_aload_n hx hb dX1_move_0 rfl (lv_at hl 0 rfl) ?_
  refine va_get (D := G.1) (ci := 5) (v := .ref dh1) (C := RX1) (T := TX1) (N := 4) hx hb hts uws_X1 hown hK hP 0 rfl rfl 1 (by decide) (hts _ u_967) (fun _ h9 => h9) rfl dX1_move_1 ?_
  refine lv_iload_n hx hb dX1_move_4 rfl (lv_at hl 2 rfl) ?_
  refine lv_aload_n hx hb dX1_move_5 rfl (lv_at hl 0 rfl) ?_
  refine va_get (D := G.1) (ci := 5) (v := .ref dh1) (C := RX1) (T := TX1) (N := 4) hx hb hts uws_X1 hown hK hP 0 rfl rfl 1 (by decide) (hts _ u_967) (fun _ h9 => h9) rfl dX1_move_6 ?_
  refine lv_iload_n hx hb dX1_move_9 rfl (lv_at hl 1 rfl) ?_
  refine r_S (own := RX1) (v := (some (.int (f_X7_at 12 d.2.1 i)))) (st1 := [.int (f_X7_at 12 d.2.1 i), .int j, .ref dh1]) (As := [.ref dh1, .int i]) (rest := [.int j, .ref dh1]) (c_X7_at l G dh1 12 d.2.1 i (by decide)) ⟨hx, hb, hml, hown, hts⟩ g_X1_25 hds_X7_at hK hST hS hP [1] rfl ⟨Nat.le_of_ble_eq_true rfl, Nat.le_of_ble_eq_true rfl⟩ ⟨Nat.le_of_ble_eq_true rfl, Nat.le_of_ble_eq_true rfl⟩ rfl hl.1 rfl (Nat.le_of_ble_eq_true rfl) dX1_move_10 rfl (fun b_1 => ?_)
  have hP : va_P G.1 vwCl (fl [[(dh0, .inr (5, [.int d.1, .ref dh1, .ref dh2, .ref dh3]))], [cArr G dh1 12 d.2.1], [cArr G dh2 12 d.2.2.1], [cArr G dh3 12 d.2.2.2]]) s.heap := hP
  have hD : va_D A (fl [[(dh0, .inr (5, [.int d.1, .ref dh1, .ref dh2, .ref dh3]))], [cArr G dh1 12 d.2.1], [cArr G dh2 12 d.2.2.1], [cArr G dh3 12 d.2.2.2]]) := hD
  refine w_S (own := RX1) (cs := [[cArr G dh1 12 d.2.1]]) (rs := [[(dh0, .inr (5, [.int d.1, .ref dh1, .ref dh2, .ref dh3]))], [cArr G dh2 12 d.2.2.1], [cArr G dh3 12 d.2.2.2]]) (As := [.ref dh1, .int j, .int (f_X7_at 12 d.2.1 i)]) (rest := []) (c_X7_put l G dh1 s.heap.size 12 d.2.1 j (f_X7_at 12 d.2.1 i) (by decide)) ⟨hx, hb, hml, hown, hts⟩ g_X1_43 hds_X7_put hK hST hS hP hD hA [1] [0, 2, 3] rfl rfl rfl ⟨Nat.le_of_ble_eq_true rfl, Nat.le_of_ble_eq_true rfl⟩ ⟨Nat.le_of_ble_eq_true rfl, Nat.le_of_ble_eq_true rfl⟩ rfl hl.1 rfl (Nat.le_of_ble_eq_true rfl) dX1_move_13 (fun u_3 H locs huu hP hD hS => ?_)
  have eu_3 := huu
  have hP : va_P G.1 vwCl (fl [[cArr G dh1 12 u_3], [(dh0, .inr (5, [.int d.1, .ref dh1, .ref dh2, .ref dh3]))], [cArr G dh2 12 d.2.2.1], [cArr G dh3 12 d.2.2.2]]) H := hP
  have hD : va_D A (fl [[cArr G dh1 12 u_3], [(dh0, .inr (5, [.int d.1, .ref dh1, .ref dh2, .ref dh3]))], [cArr G dh2 12 d.2.2.1], [cArr G dh3 12 d.2.2.2]]) := hD
  refine W.eq (g2 := F0 m 16 ls []) rfl ?_
  have hF : f_X1_move d i j = (let u_6 : (Nat → Int32) := (f_X7_put 12 d.2.2.1 j (f_X7_at 12 d.2.2.1 i)); (let u_9 : (Nat → Int32) := (f_X7_put 12 d.2.2.2 j (f_X7_at 12 d.2.2.2 i)); (d.1, u_3, u_6, u_9))) := by subst eu_3; exact hF
  refine lv_aload_n hx hb dX1_move_16 rfl (lv_at hl 0 rfl) ?_
  refine va_get (D := G.1) (ci := 5) (v := .ref dh2) (C := RX1) (T := TX1) (N := 4) hx hb hts uws_X1 hown hK hP 1 rfl rfl 2 (by decide) (hts _ u_968) (fun _ h9 => h9) rfl dX1_move_17 ?_
  refine lv_iload_n hx hb dX1_move_20 rfl (lv_at hl 2 rfl) ?_
  refine lv_aload_n hx hb dX1_move_21 rfl (lv_at hl 0 rfl) ?_
  refine va_get (D := G.1) (ci := 5) (v := .ref dh2) (C := RX1) (T := TX1) (N := 4) hx hb hts uws_X1 hown hK hP 1 rfl rfl 2 (by decide) (hts _ u_968) (fun _ h9 => h9) rfl dX1_move_22 ?_
  refine lv_iload_n hx hb dX1_move_25 rfl (lv_at hl 1 rfl) ?_
  refine r_S (own := RX1) (v := (some (.int (f_X7_at 12 d.2.2.1 i)))) (st1 := [.int (f_X7_at 12 d.2.2.1 i), .int j, .ref dh2]) (As := [.ref dh2, .int i]) (rest := [.int j, .ref dh2]) (c_X7_at l G dh2 12 d.2.2.1 i (by decide)) ⟨hx, hb, hml, hown, hts⟩ g_X1_25 hds_X7_at hK hST hS hP [2] rfl ⟨Nat.le_of_ble_eq_true rfl, Nat.le_of_ble_eq_true rfl⟩ ⟨Nat.le_of_ble_eq_true rfl, Nat.le_of_ble_eq_true rfl⟩ rfl hl.1 rfl (Nat.le_of_ble_eq_true rfl) dX1_move_26 rfl (fun b_4 => ?_)
  refine w_S (own := RX1) (cs := [[cArr G dh2 12 d.2.2.1]]) (rs := [[cArr G dh1 12 u_3], [(dh0, .inr (5, [.int d.1, .ref dh1, .ref dh2, .ref dh3]))], [cArr G dh3 12 d.2.2.2]]) (As := [.ref dh2, .int j, .int (f_X7_at 12 d.2.2.1 i)]) (rest := []) (c_X7_put l G dh2 H.size 12 d.2.2.1 j (f_X7_at 12 d.2.2.1 i) (by decide)) ⟨hx, hb, hml, hown, hts⟩ g_X1_43 hds_X7_put hK hST hS hP hD hA [2] [0, 1, 3] rfl rfl rfl ⟨Nat.le_of_ble_eq_true rfl, Nat.le_of_ble_eq_true rfl⟩ ⟨Nat.le_of_ble_eq_true rfl, Nat.le_of_ble_eq_true rfl⟩ rfl hl.1 rfl (Nat.le_of_ble_eq_true rfl) dX1_move_29 (fun u_6 H locs huu hP hD hS => ?_)
  have eu_6 := huu
  have hP : va_P G.1 vwCl (fl [[cArr G dh2 12 u_6], [cArr G dh1 12 u_3], [(dh0, .inr (5, [.int d.1, .ref dh1, .ref dh2, .ref dh3]))], [cArr G dh3 12 d.2.2.2]]) H := hP
  have hD : va_D A (fl [[cArr G dh2 12 u_6], [cArr G dh1 12 u_3], [(dh0, .inr (5, [.int d.1, .ref dh1, .ref dh2, .ref dh3]))], [cArr G dh3 12 d.2.2.2]]) := hD
  refine W.eq (g2 := F0 m 32 ls []) rfl ?_
  have hF : f_X1_move d i j = (let u_9 : (Nat → Int32) := (f_X7_put 12 d.2.2.2 j (f_X7_at 12 d.2.2.2 i)); (d.1, u_3, u_6, u_9)) := by subst eu_6; exact hF
  refine lv_aload_n hx hb dX1_move_32 rfl (lv_at hl 0 rfl) ?_
  refine va_get (D := G.1) (ci := 5) (v := .ref dh3) (C := RX1) (T := TX1) (N := 4) hx hb hts uws_X1 hown hK hP 2 rfl rfl 3 (by decide) (hts _ u_969) (fun _ h9 => h9) rfl dX1_move_33 ?_
  refine lv_iload_n hx hb dX1_move_36 rfl (lv_at hl 2 rfl) ?_
  refine lv_aload_n hx hb dX1_move_37 rfl (lv_at hl 0 rfl) ?_
  refine va_get (D := G.1) (ci := 5) (v := .ref dh3) (C := RX1) (T := TX1) (N := 4) hx hb hts uws_X1 hown hK hP 2 rfl rfl 3 (by decide) (hts _ u_969) (fun _ h9 => h9) rfl dX1_move_38 ?_
  refine lv_iload_n hx hb dX1_move_41 rfl (lv_at hl 1 rfl) ?_
  refine r_S (own := RX1) (v := (some (.int (f_X7_at 12 d.2.2.2 i)))) (st1 := [.int (f_X7_at 12 d.2.2.2 i), .int j, .ref dh3]) (As := [.ref dh3, .int i]) (rest := [.int j, .ref dh3]) (c_X7_at l G dh3 12 d.2.2.2 i (by decide)) ⟨hx, hb, hml, hown, hts⟩ g_X1_25 hds_X7_at hK hST hS hP [3] rfl ⟨Nat.le_of_ble_eq_true rfl, Nat.le_of_ble_eq_true rfl⟩ ⟨Nat.le_of_ble_eq_true rfl, Nat.le_of_ble_eq_true rfl⟩ rfl hl.1 rfl (Nat.le_of_ble_eq_true rfl) dX1_move_42 rfl (fun b_7 => ?_)
  refine w_S (own := RX1) (cs := [[cArr G dh3 12 d.2.2.2]]) (rs := [[cArr G dh2 12 u_6], [cArr G dh1 12 u_3], [(dh0, .inr (5, [.int d.1, .ref dh1, .ref dh2, .ref dh3]))]]) (As := [.ref dh3, .int j, .int (f_X7_at 12 d.2.2.2 i)]) (rest := []) (c_X7_put l G dh3 H.size 12 d.2.2.2 j (f_X7_at 12 d.2.2.2 i) (by decide)) ⟨hx, hb, hml, hown, hts⟩ g_X1_43 hds_X7_put hK hST hS hP hD hA [3] [0, 1, 2] rfl rfl rfl ⟨Nat.le_of_ble_eq_true rfl, Nat.le_of_ble_eq_true rfl⟩ ⟨Nat.le_of_ble_eq_true rfl, Nat.le_of_ble_eq_true rfl⟩ rfl hl.1 rfl (Nat.le_of_ble_eq_true rfl) dX1_move_45 (fun u_9 H locs huu hP hD hS => ?_)
  have eu_9 := huu
  have hP : va_P G.1 vwCl (fl [[cArr G dh3 12 u_9], [cArr G dh2 12 u_6], [cArr G dh1 12 u_3], [(dh0, .inr (5, [.int d.1, .ref dh1, .ref dh2, .ref dh3]))]]) H := hP
  have hD : va_D A (fl [[cArr G dh3 12 u_9], [cArr G dh2 12 u_6], [cArr G dh1 12 u_3], [(dh0, .inr (5, [.int d.1, .ref dh1, .ref dh2, .ref dh3]))]]) := hD
  refine W.eq (g2 := F0 m 48 ls []) rfl ?_
  have hF : f_X1_move d i j = (d.1, u_3, u_6, u_9) := by subst eu_9; exact hF
  have hP := fl_sub (cs := [[(dh0, .inr (5, [.int d.1, .ref dh1, .ref dh2, .ref dh3]))], [cArr G dh1 12 u_3], [cArr G dh2 12 u_6], [cArr G dh3 12 u_9]]) [3, 2, 1, 0] rfl hP
  have hD := fl_subD (cs := [[(dh0, .inr (5, [.int d.1, .ref dh1, .ref dh2, .ref dh3]))], [cArr G dh1 12 u_3], [cArr G dh2 12 u_6], [cArr G dh3 12 u_9]]) [3, 2, 1, 0] rfl rfl hD
  exact w_retV (u := (d.1, u_3, u_6, u_9)) hx hb hr hlk hS rfl hF.symm hP hD (Nat.le_of_ble_eq_true rfl) (Nat.le_of_ble_eq_true rfl) dX1_move_48
theorem dX1_insert_0 : decode cX1_insert 0 = .ok (.aload_n 0, 1) := by decide +kernel
theorem dX1_insert_1 : decode cX1_insert 1 = .ok (.getfield 9, 3) := by decide +kernel
theorem dX1_insert_4 : decode cX1_insert 4 = .ok (.istore 4, 2) := by decide +kernel
theorem dX1_insert_6 : decode cX1_insert 6 = .ok (.iload 4, 2) := by decide +kernel
theorem dX1_insert_8 : decode cX1_insert 8 = .ok (.ifCond .le 32, 3) := by decide +kernel
theorem dX1_insert_40 : decode cX1_insert 40 = .ok (.aload_n 0, 1) := by decide +kernel
theorem dX1_insert_41 : decode cX1_insert 41 = .ok (.getfield 15, 3) := by decide +kernel
theorem dX1_insert_44 : decode cX1_insert 44 = .ok (.iload 4, 2) := by decide +kernel
theorem dX1_insert_46 : decode cX1_insert 46 = .ok (.iload_n 1, 1) := by decide +kernel
theorem dX1_insert_47 : decode cX1_insert 47 = .ok (.invokestatic 43, 3) := by decide +kernel
theorem dX1_insert_50 : decode cX1_insert 50 = .ok (.aload_n 0, 1) := by decide +kernel
theorem dX1_insert_51 : decode cX1_insert 51 = .ok (.getfield 19, 3) := by decide +kernel
theorem dX1_insert_54 : decode cX1_insert 54 = .ok (.iload 4, 2) := by decide +kernel
theorem dX1_insert_56 : decode cX1_insert 56 = .ok (.iload_n 2, 1) := by decide +kernel
theorem dX1_insert_57 : decode cX1_insert 57 = .ok (.invokestatic 43, 3) := by decide +kernel
theorem dX1_insert_60 : decode cX1_insert 60 = .ok (.aload_n 0, 1) := by decide +kernel
theorem dX1_insert_61 : decode cX1_insert 61 = .ok (.getfield 22, 3) := by decide +kernel
theorem dX1_insert_64 : decode cX1_insert 64 = .ok (.iload 4, 2) := by decide +kernel
theorem dX1_insert_66 : decode cX1_insert 66 = .ok (.iload_n 3, 1) := by decide +kernel
theorem dX1_insert_67 : decode cX1_insert 67 = .ok (.ifCond .eq 7, 3) := by decide +kernel
theorem dX1_insert_74 : decode cX1_insert 74 = .ok (.iconst 2, 1) := by decide +kernel
theorem dX1_insert_75 : decode cX1_insert 75 = .ok (.invokestatic 43, 3) := by decide +kernel
theorem dX1_insert_78 : decode cX1_insert 78 = .ok (.aload_n 0, 1) := by decide +kernel
theorem dX1_insert_79 : decode cX1_insert 79 = .ok (.dup, 1) := by decide +kernel
theorem dX1_insert_80 : decode cX1_insert 80 = .ok (.getfield 9, 3) := by decide +kernel
theorem dX1_insert_83 : decode cX1_insert 83 = .ok (.iconst 1, 1) := by decide +kernel
theorem dX1_insert_84 : decode cX1_insert 84 = .ok (.iadd, 1) := by decide +kernel
theorem dX1_insert_85 : decode cX1_insert 85 = .ok (.putfield 9, 3) := by decide +kernel
theorem dX1_insert_88 : decode cX1_insert 88 = .ok (.aload_n 0, 1) := by decide +kernel
theorem dX1_insert_89 : decode cX1_insert 89 = .ok (.getfield 9, 3) := by decide +kernel
theorem dX1_insert_92 : decode cX1_insert 92 = .ok (.ireturn, 1) := by decide +kernel
theorem dX1_insert_70 : decode cX1_insert 70 = .ok (.iconst 1, 1) := by decide +kernel
theorem dX1_insert_71 : decode cX1_insert 71 = .ok (.goto 4, 3) := by decide +kernel
theorem dX1_insert_11 : decode cX1_insert 11 = .ok (.aload_n 0, 1) := by decide +kernel
theorem dX1_insert_12 : decode cX1_insert 12 = .ok (.iload 4, 2) := by decide +kernel
theorem dX1_insert_14 : decode cX1_insert 14 = .ok (.iconst 1, 1) := by decide +kernel
theorem dX1_insert_15 : decode cX1_insert 15 = .ok (.isub, 1) := by decide +kernel
theorem dX1_insert_16 : decode cX1_insert 16 = .ok (.iload_n 1, 1) := by decide +kernel
theorem dX1_insert_17 : decode cX1_insert 17 = .ok (.iload_n 2, 1) := by decide +kernel
theorem dX1_insert_18 : decode cX1_insert 18 = .ok (.invokevirtual 35, 3) := by decide +kernel
theorem u_692 : Cond.methodLink RX1 35 yX1_isAfter ∈ UW := uw 692 (by decide +kernel) rfl
theorem u_694 : Cond.instanceMethod yX1_isAfter ∈ UW := uw 694 (by decide +kernel) rfl
theorem u_4 : Cond.selects RX1 yX1_isAfter yX1_isAfter ∈ UW := uw 4 (by decide +kernel) rfl
theorem u_696 : Cond.code yX1_isAfter cX1_isAfter 5 (some .boolean) ∈ UW := uw 696 (by decide +kernel) rfl
theorem g_X1_35 : GoodIn UW (wsV RX1 35 RX1 yX1_isAfter (wsU yX1_isAfter cX1_isAfter 5 (some .boolean))) := gV u_692 u_694 u_4 u_24 u_696
theorem hdv_X1_isAfter : yX1_isAfter.cls = RX1 ∧ yX1_isAfter.cls ≠ "java/lang/invoke/MethodHandle" ∧ yX1_isAfter.cls ≠ "java/lang/invoke/VarHandle" ∧ (parseMethodDescriptor yX1_isAfter.desc).map (fun d => d.parameters.length) = some 3 := by decide +kernel
theorem dX1_insert_21 : decode cX1_insert 21 = .ok (.ifCond .eq 19, 3) := by decide +kernel
theorem dX1_insert_24 : decode cX1_insert 24 = .ok (.aload_n 0, 1) := by decide +kernel
theorem dX1_insert_25 : decode cX1_insert 25 = .ok (.iload 4, 2) := by decide +kernel
theorem dX1_insert_27 : decode cX1_insert 27 = .ok (.iconst 1, 1) := by decide +kernel
theorem dX1_insert_28 : decode cX1_insert 28 = .ok (.isub, 1) := by decide +kernel
theorem dX1_insert_29 : decode cX1_insert 29 = .ok (.iload 4, 2) := by decide +kernel
theorem dX1_insert_31 : decode cX1_insert 31 = .ok (.invokevirtual 39, 3) := by decide +kernel
theorem u_697 : Cond.methodLink RX1 39 yX1_move ∈ UW := uw 697 (by decide +kernel) rfl
theorem u_699 : Cond.instanceMethod yX1_move ∈ UW := uw 699 (by decide +kernel) rfl
theorem u_5 : Cond.selects RX1 yX1_move yX1_move ∈ UW := uw 5 (by decide +kernel) rfl
theorem u_700 : Cond.code yX1_move cX1_move 3 none ∈ UW := uw 700 (by decide +kernel) rfl
theorem g_X1_39 : GoodIn UW (wsV RX1 39 RX1 yX1_move (wsU yX1_move cX1_move 3 none)) := gV u_697 u_699 u_5 u_24 u_700
theorem hdv_X1_move : yX1_move.cls = RX1 ∧ yX1_move.cls ≠ "java/lang/invoke/MethodHandle" ∧ yX1_move.cls ≠ "java/lang/invoke/VarHandle" ∧ (parseMethodDescriptor yX1_move.desc).map (fun d => d.parameters.length) = some 2 := by decide +kernel
theorem dX1_insert_34 : decode cX1_insert 34 = .ok (.iinc 4 (-1), 3) := by decide +kernel
theorem dX1_insert_37 : decode cX1_insert 37 = .ok (.goto (-31), 3) := by decide +kernel
def lp_X1_insert_6 (d : ExV) (dr : Int32) (dy : Int32) (op : Int32) : Nat → Int32 → ExV → Int32 × ExV
  | 0, _, _ => (0, d)
  | n + 1, x4, dL => (if x4 ≤ (0 : Int32) then (let u_3 : (Nat → Int32) := (f_X7_put 12 dL.2.1 x4 dr); (let u_5 : (Nat → Int32) := (f_X7_put 12 dL.2.2.1 x4 dy); (if op = (0 : Int32) then (let u_8 : (Nat → Int32) := (f_X7_put 12 dL.2.2.2 x4 (2 : Int32)); ((dL.1 + (1 : Int32)), ((dL.1 + (1 : Int32)), u_3, u_5, u_8))) else (let u_10 : (Nat → Int32) := (f_X7_put 12 dL.2.2.2 x4 (1 : Int32)); ((dL.1 + (1 : Int32)), ((dL.1 + (1 : Int32)), u_3, u_5, u_10)))))) else (if (f_X1_isAfter dL (x4 - (1 : Int32)) dr dy) = (0 : Int32) then (let u_14 : (Nat → Int32) := (f_X7_put 12 dL.2.1 x4 dr); (let u_16 : (Nat → Int32) := (f_X7_put 12 dL.2.2.1 x4 dy); (if op = (0 : Int32) then (let u_19 : (Nat → Int32) := (f_X7_put 12 dL.2.2.2 x4 (2 : Int32)); ((dL.1 + (1 : Int32)), ((dL.1 + (1 : Int32)), u_14, u_16, u_19))) else (let u_21 : (Nat → Int32) := (f_X7_put 12 dL.2.2.2 x4 (1 : Int32)); ((dL.1 + (1 : Int32)), ((dL.1 + (1 : Int32)), u_14, u_16, u_21)))))) else (let u_23 : ExV := (f_X1_move dL (x4 - (1 : Int32)) x4); (lp_X1_insert_6 d dr dy op n (x4 + (-1)) u_23))))
def f_X1_insert (d : ExV) (dr : Int32) (dy : Int32) (op : Int32) : Int32 × ExV := (lp_X1_insert_6 d dr dy op ((d.1).toInt.toNat + 1) d.1 d)
set_option maxHeartbeats 4000000 in
set_option maxRecDepth 100000 in
theorem c_X1_insert (l : Launch) (G : GG) (dh0 : Nat) (dh1 : Nat) (dh2 : Nat) (dh3 : Nat) (sz : Nat) (d : ExV) (dr : Int32) (dy : Int32) (op : Int32) : wMet l yX1_insert cX1_insert 5 (some .int) 3 0 0 G (fl [wEx G dh0 dh1 dh2 dh3 d]) [.ref dh0, .int dr, .int dy, .int op] sz (fun u : Int32 × ExV => some (.int u.1)) (fun u : Int32 × ExV => u = f_X1_insert d dr dy op) (fun u : Int32 × ExV => fl [wEx G dh0 dh1 dh2 dh3 u.2]) := by
  refine w_start (by decide +kernel) (Nat.le_of_ble_eq_true rfl) ?_
  intro p e s m below meth c A hx hb hr hml hts hown hlk hin hP hD hA hK hST ls hl
  have hS : va_S A s.heap s.heap [] := va_S.rf
  have hown : s.vm.findClass RX1 = some m.cls := hown
  have hl : lv_has ls 5 [(0, .ref dh0), (1, .int dr), (2, .int dy), (3, .int op)] := hl
  have hF : f_X1_insert d dr dy op = (lp_X1_insert_6 d dr dy op ((d.1).toInt.toNat + 1) d.1 d) := rfl
  refine lv_aload_n hx hb dX1_insert_0 rfl (lv_at hl 0 rfl) ?_
  refine va_get (D := G.1) (ci := 5) (v := .int d.1) (C := RX1) (T := TX1) (N := 4) hx hb hts uws_X1 hown hK hP 0 rfl rfl 0 (by decide) (hts _ u_964) (fun _ h9 => h9) rfl dX1_insert_1 ?_
  refine lv_istore (lv' := [(4, .int d.1), (0, .ref dh0), (1, .int dr), (2, .int dy), (3, .int op)]) hx hb dX1_insert_4 hl (by decide) rfl (fun ls hl => ?_)
  have L6 : ∀ (n : Nat) (x4 : Int32) (dL : ExV) (H : Heap) (locs : List Loc) (ls : Array Slot), lv_has ls 5 [(4, .int x4), (0, .ref dh0), (1, .int dr), (2, .int dy), (3, .int op)] → va_P G.1 vwCl (fl [wEx G dh0 dh1 dh2 dh3 dL]) H → va_D A (fl [wEx G dh0 dh1 dh2 dh3 dL]) → va_S A s.heap H locs → (dnI x4 n) → f_X1_insert d dr dy op = lp_X1_insert_6 d dr dy op n x4 dL → W p l e (rmd 3 0 0) s m ([.ref dh0, .int dr, .int dy, .int op] : List Value).toArray below meth c H locs 0 0 (MQ below (wQ (fun u : Int32 × ExV => some (.int u.1)) (fun u : Int32 × ExV => u = f_X1_insert d dr dy op) (fun u : Int32 × ExV => fl [wEx G dh0 dh1 dh2 dh3 u.2]) G.1 A) ([.ref dh0, .int dr, .int dy, .int op] : List Value).toArray s 0 0 A) (F0 m 6 ls []) := by
    intro n
    induction n with
    | zero => intro x4 dL H locs ls hl _ _ _ hu; exact absurd hu (dnI_0)
    | succ n ih =>
      intro x4 dL H locs ls hl hP hD hS hu hF
      have hF : f_X1_insert d dr dy op = (if x4 ≤ (0 : Int32) then (let u_3 : (Nat → Int32) := (f_X7_put 12 dL.2.1 x4 dr); (let u_5 : (Nat → Int32) := (f_X7_put 12 dL.2.2.1 x4 dy); (if op = (0 : Int32) then (let u_8 : (Nat → Int32) := (f_X7_put 12 dL.2.2.2 x4 (2 : Int32)); ((dL.1 + (1 : Int32)), ((dL.1 + (1 : Int32)), u_3, u_5, u_8))) else (let u_10 : (Nat → Int32) := (f_X7_put 12 dL.2.2.2 x4 (1 : Int32)); ((dL.1 + (1 : Int32)), ((dL.1 + (1 : Int32)), u_3, u_5, u_10)))))) else (if (f_X1_isAfter dL (x4 - (1 : Int32)) dr dy) = (0 : Int32) then (let u_14 : (Nat → Int32) := (f_X7_put 12 dL.2.1 x4 dr); (let u_16 : (Nat → Int32) := (f_X7_put 12 dL.2.2.1 x4 dy); (if op = (0 : Int32) then (let u_19 : (Nat → Int32) := (f_X7_put 12 dL.2.2.2 x4 (2 : Int32)); ((dL.1 + (1 : Int32)), ((dL.1 + (1 : Int32)), u_14, u_16, u_19))) else (let u_21 : (Nat → Int32) := (f_X7_put 12 dL.2.2.2 x4 (1 : Int32)); ((dL.1 + (1 : Int32)), ((dL.1 + (1 : Int32)), u_14, u_16, u_21)))))) else (let u_23 : ExV := (f_X1_move dL (x4 - (1 : Int32)) x4); (lp_X1_insert_6 d dr dy op n (x4 + (-1)) u_23)))) := hF
      refine lv_iload hx hb dX1_insert_6 (lv_at hl 0 rfl) ?_
      refine lv_if_le (tgt := 40) hx hb dX1_insert_8 (by decide) (fun c_1 => ?_) (fun c_1 => ?_)
      · have hF := hF.trans (if_pos c_1)
        refine lv_aload_n hx hb dX1_insert_40 rfl (lv_at hl 1 rfl) ?_
        refine va_get (D := G.1) (ci := 5) (v := .ref dh1) (C := RX1) (T := TX1) (N := 4) hx hb hts uws_X1 hown hK hP 0 rfl rfl 1 (by decide) (hts _ u_967) (fun _ h9 => h9) rfl dX1_insert_41 ?_
        refine lv_iload hx hb dX1_insert_44 (lv_at hl 0 rfl) ?_
        refine lv_iload_n hx hb dX1_insert_46 rfl (lv_at hl 2 rfl) ?_
        have hP : va_P G.1 vwCl (fl [[(dh0, .inr (5, [.int dL.1, .ref dh1, .ref dh2, .ref dh3]))], [cArr G dh1 12 dL.2.1], [cArr G dh2 12 dL.2.2.1], [cArr G dh3 12 dL.2.2.2]]) H := hP
        have hD : va_D A (fl [[(dh0, .inr (5, [.int dL.1, .ref dh1, .ref dh2, .ref dh3]))], [cArr G dh1 12 dL.2.1], [cArr G dh2 12 dL.2.2.1], [cArr G dh3 12 dL.2.2.2]]) := hD
        refine w_S (own := RX1) (cs := [[cArr G dh1 12 dL.2.1]]) (rs := [[(dh0, .inr (5, [.int dL.1, .ref dh1, .ref dh2, .ref dh3]))], [cArr G dh2 12 dL.2.2.1], [cArr G dh3 12 dL.2.2.2]]) (As := [.ref dh1, .int x4, .int dr]) (rest := []) (c_X7_put l G dh1 H.size 12 dL.2.1 x4 dr (by decide)) ⟨hx, hb, hml, hown, hts⟩ g_X1_43 hds_X7_put hK hST hS hP hD hA [1] [0, 2, 3] rfl rfl rfl ⟨Nat.le_of_ble_eq_true rfl, Nat.le_of_ble_eq_true rfl⟩ ⟨Nat.le_of_ble_eq_true rfl, Nat.le_of_ble_eq_true rfl⟩ rfl hl.1 rfl (Nat.le_of_ble_eq_true rfl) dX1_insert_47 (fun u_3 H locs huu hP hD hS => ?_)
        have eu_3 := huu
        have hP : va_P G.1 vwCl (fl [[cArr G dh1 12 u_3], [(dh0, .inr (5, [.int dL.1, .ref dh1, .ref dh2, .ref dh3]))], [cArr G dh2 12 dL.2.2.1], [cArr G dh3 12 dL.2.2.2]]) H := hP
        have hD : va_D A (fl [[cArr G dh1 12 u_3], [(dh0, .inr (5, [.int dL.1, .ref dh1, .ref dh2, .ref dh3]))], [cArr G dh2 12 dL.2.2.1], [cArr G dh3 12 dL.2.2.2]]) := hD
        refine W.eq (g2 := F0 m 50 ls []) rfl ?_
        have hF : f_X1_insert d dr dy op = (let u_5 : (Nat → Int32) := (f_X7_put 12 dL.2.2.1 x4 dy); (if op = (0 : Int32) then (let u_8 : (Nat → Int32) := (f_X7_put 12 dL.2.2.2 x4 (2 : Int32)); ((dL.1 + (1 : Int32)), ((dL.1 + (1 : Int32)), u_3, u_5, u_8))) else (let u_10 : (Nat → Int32) := (f_X7_put 12 dL.2.2.2 x4 (1 : Int32)); ((dL.1 + (1 : Int32)), ((dL.1 + (1 : Int32)), u_3, u_5, u_10))))) := by subst eu_3; exact hF
        refine lv_aload_n hx hb dX1_insert_50 rfl (lv_at hl 1 rfl) ?_
        refine va_get (D := G.1) (ci := 5) (v := .ref dh2) (C := RX1) (T := TX1) (N := 4) hx hb hts uws_X1 hown hK hP 1 rfl rfl 2 (by decide) (hts _ u_968) (fun _ h9 => h9) rfl dX1_insert_51 ?_
        refine lv_iload hx hb dX1_insert_54 (lv_at hl 0 rfl) ?_
        refine lv_iload_n hx hb dX1_insert_56 rfl (lv_at hl 3 rfl) ?_
        refine w_S (own := RX1) (cs := [[cArr G dh2 12 dL.2.2.1]]) (rs := [[cArr G dh1 12 u_3], [(dh0, .inr (5, [.int dL.1, .ref dh1, .ref dh2, .ref dh3]))], [cArr G dh3 12 dL.2.2.2]]) (As := [.ref dh2, .int x4, .int dy]) (rest := []) (c_X7_put l G dh2 H.size 12 dL.2.2.1 x4 dy (by decide)) ⟨hx, hb, hml, hown, hts⟩ g_X1_43 hds_X7_put hK hST hS hP hD hA [2] [0, 1, 3] rfl rfl rfl ⟨Nat.le_of_ble_eq_true rfl, Nat.le_of_ble_eq_true rfl⟩ ⟨Nat.le_of_ble_eq_true rfl, Nat.le_of_ble_eq_true rfl⟩ rfl hl.1 rfl (Nat.le_of_ble_eq_true rfl) dX1_insert_57 (fun u_5 H locs huu hP hD hS => ?_)
        have eu_5 := huu
        have hP : va_P G.1 vwCl (fl [[cArr G dh2 12 u_5], [cArr G dh1 12 u_3], [(dh0, .inr (5, [.int dL.1, .ref dh1, .ref dh2, .ref dh3]))], [cArr G dh3 12 dL.2.2.2]]) H := hP
        have hD : va_D A (fl [[cArr G dh2 12 u_5], [cArr G dh1 12 u_3], [(dh0, .inr (5, [.int dL.1, .ref dh1, .ref dh2, .ref dh3]))], [cArr G dh3 12 dL.2.2.2]]) := hD
        refine W.eq (g2 := F0 m 60 ls []) rfl ?_
        have hF : f_X1_insert d dr dy op = (if op = (0 : Int32) then (let u_8 : (Nat → Int32) := (f_X7_put 12 dL.2.2.2 x4 (2 : Int32)); ((dL.1 + (1 : Int32)), ((dL.1 + (1 : Int32)), u_3, u_5, u_8))) else (let u_10 : (Nat → Int32) := (f_X7_put 12 dL.2.2.2 x4 (1 : Int32)); ((dL.1 + (1 : Int32)), ((dL.1 + (1 : Int32)), u_3, u_5, u_10)))) := by subst eu_5; exact hF
        refine lv_aload_n hx hb dX1_insert_60 rfl (lv_at hl 1 rfl) ?_
        refine va_get (D := G.1) (ci := 5) (v := .ref dh3) (C := RX1) (T := TX1) (N := 4) hx hb hts uws_X1 hown hK hP 2 rfl rfl 3 (by decide) (hts _ u_969) (fun _ h9 => h9) rfl dX1_insert_61 ?_
        refine lv_iload hx hb dX1_insert_64 (lv_at hl 0 rfl) ?_
        refine lv_iload_n hx hb dX1_insert_66 rfl (lv_at hl 4 rfl) ?_
        refine lv_if_eq (tgt := 74) hx hb dX1_insert_67 (by decide) (fun c_6 => ?_) (fun c_6 => ?_)
        · have hF := hF.trans (if_pos c_6)
          refine lv_iconst (v := (2 : Int32)) hx hb dX1_insert_74 (by decide) ?_
          refine w_S (own := RX1) (cs := [[cArr G dh3 12 dL.2.2.2]]) (rs := [[cArr G dh2 12 u_5], [cArr G dh1 12 u_3], [(dh0, .inr (5, [.int dL.1, .ref dh1, .ref dh2, .ref dh3]))]]) (As := [.ref dh3, .int x4, .int (2 : Int32)]) (rest := []) (c_X7_put l G dh3 H.size 12 dL.2.2.2 x4 (2 : Int32) (by decide)) ⟨hx, hb, hml, hown, hts⟩ g_X1_43 hds_X7_put hK hST hS hP hD hA [3] [0, 1, 2] rfl rfl rfl ⟨Nat.le_of_ble_eq_true rfl, Nat.le_of_ble_eq_true rfl⟩ ⟨Nat.le_of_ble_eq_true rfl, Nat.le_of_ble_eq_true rfl⟩ rfl hl.1 rfl (Nat.le_of_ble_eq_true rfl) dX1_insert_75 (fun u_8 H locs huu hP hD hS => ?_)
          have eu_8 := huu
          have hP : va_P G.1 vwCl (fl [[cArr G dh3 12 u_8], [cArr G dh2 12 u_5], [cArr G dh1 12 u_3], [(dh0, .inr (5, [.int dL.1, .ref dh1, .ref dh2, .ref dh3]))]]) H := hP
          have hD : va_D A (fl [[cArr G dh3 12 u_8], [cArr G dh2 12 u_5], [cArr G dh1 12 u_3], [(dh0, .inr (5, [.int dL.1, .ref dh1, .ref dh2, .ref dh3]))]]) := hD
          refine W.eq (g2 := F0 m 78 ls []) rfl ?_
          have hF : f_X1_insert d dr dy op = ((dL.1 + (1 : Int32)), ((dL.1 + (1 : Int32)), u_3, u_5, u_8)) := by subst eu_8; exact hF
          refine lv_aload_n hx hb dX1_insert_78 rfl (lv_at hl 1 rfl) ?_
          refine lv_dup hx hb dX1_insert_79 rfl ?_
          refine va_get (D := G.1) (ci := 5) (v := .int dL.1) (C := RX1) (T := TX1) (N := 4) hx hb hts uws_X1 hown hK hP 3 rfl rfl 0 (by decide) (hts _ u_964) (fun _ h9 => h9) rfl dX1_insert_80 ?_
          refine lv_iconst (v := (1 : Int32)) hx hb dX1_insert_83 (by decide) ?_
          refine lv_iadd hx hb dX1_insert_84 ?_
          refine va_put (D := G.1) (ci := 5) (v := .int (dL.1 + (1 : Int32))) (ty := .int) (C := RX1) (T := TX1) (N := 4) hx hb hts uws_X1 tyX1 tyX1_ok nmX1 hown hK hP hD hS 3 rfl rfl 0 (by decide) (hts _ u_964) (fun _ h9 => h9) rfl (by decide +kernel) rfl rfl (Nat.le_of_ble_eq_true rfl) dX1_insert_85 (fun H locs hP hD hS => ?_)
          have hP : va_P G.1 vwCl (fl [[cArr G dh3 12 u_8], [cArr G dh2 12 u_5], [cArr G dh1 12 u_3], [(dh0, .inr (5, [.int (dL.1 + (1 : Int32)), .ref dh1, .ref dh2, .ref dh3]))]]) H := hP
          have hD : va_D A (fl [[cArr G dh3 12 u_8], [cArr G dh2 12 u_5], [cArr G dh1 12 u_3], [(dh0, .inr (5, [.int (dL.1 + (1 : Int32)), .ref dh1, .ref dh2, .ref dh3]))]]) := hD
          refine lv_aload_n hx hb dX1_insert_88 rfl (lv_at hl 1 rfl) ?_
          refine va_get (D := G.1) (ci := 5) (v := .int (dL.1 + (1 : Int32))) (C := RX1) (T := TX1) (N := 4) hx hb hts uws_X1 hown hK hP 3 rfl rfl 0 (by decide) (hts _ u_964) (fun _ h9 => h9) rfl dX1_insert_89 ?_
          have hP := fl_sub (cs := [[(dh0, .inr (5, [.int (dL.1 + (1 : Int32)), .ref dh1, .ref dh2, .ref dh3]))], [cArr G dh1 12 u_3], [cArr G dh2 12 u_5], [cArr G dh3 12 u_8]]) [3, 2, 1, 0] rfl hP
          have hD := fl_subD (cs := [[(dh0, .inr (5, [.int (dL.1 + (1 : Int32)), .ref dh1, .ref dh2, .ref dh3]))], [cArr G dh1 12 u_3], [cArr G dh2 12 u_5], [cArr G dh3 12 u_8]]) [3, 2, 1, 0] rfl rfl hD
          exact w_ret (u := ((dL.1 + (1 : Int32)), ((dL.1 + (1 : Int32)), u_3, u_5, u_8))) hx hb hr hlk rfl hS rfl hF.symm hP hD (Nat.le_of_ble_eq_true rfl) (Nat.le_of_ble_eq_true rfl) dX1_insert_92
        · have hF := hF.trans (if_neg c_6)
          refine lv_iconst (v := (1 : Int32)) hx hb dX1_insert_70 (by decide) ?_
          refine lv_goto (tgt := 75) hx hb dX1_insert_71 (by decide) ?_
          refine w_S (own := RX1) (cs := [[cArr G dh3 12 dL.2.2.2]]) (rs := [[cArr G dh2 12 u_5], [cArr G dh1 12 u_3], [(dh0, .inr (5, [.int dL.1, .ref dh1, .ref dh2, .ref dh3]))]]) (As := [.ref dh3, .int x4, .int (1 : Int32)]) (rest := []) (c_X7_put l G dh3 H.size 12 dL.2.2.2 x4 (1 : Int32) (by decide)) ⟨hx, hb, hml, hown, hts⟩ g_X1_43 hds_X7_put hK hST hS hP hD hA [3] [0, 1, 2] rfl rfl rfl ⟨Nat.le_of_ble_eq_true rfl, Nat.le_of_ble_eq_true rfl⟩ ⟨Nat.le_of_ble_eq_true rfl, Nat.le_of_ble_eq_true rfl⟩ rfl hl.1 rfl (Nat.le_of_ble_eq_true rfl) dX1_insert_75 (fun u_10 H locs huu hP hD hS => ?_)
          have eu_10 := huu
          have hP : va_P G.1 vwCl (fl [[cArr G dh3 12 u_10], [cArr G dh2 12 u_5], [cArr G dh1 12 u_3], [(dh0, .inr (5, [.int dL.1, .ref dh1, .ref dh2, .ref dh3]))]]) H := hP
          have hD : va_D A (fl [[cArr G dh3 12 u_10], [cArr G dh2 12 u_5], [cArr G dh1 12 u_3], [(dh0, .inr (5, [.int dL.1, .ref dh1, .ref dh2, .ref dh3]))]]) := hD
          refine W.eq (g2 := F0 m 78 ls []) rfl ?_
          have hF : f_X1_insert d dr dy op = ((dL.1 + (1 : Int32)), ((dL.1 + (1 : Int32)), u_3, u_5, u_10)) := by subst eu_10; exact hF
          refine lv_aload_n hx hb dX1_insert_78 rfl (lv_at hl 1 rfl) ?_
          refine lv_dup hx hb dX1_insert_79 rfl ?_
          refine va_get (D := G.1) (ci := 5) (v := .int dL.1) (C := RX1) (T := TX1) (N := 4) hx hb hts uws_X1 hown hK hP 3 rfl rfl 0 (by decide) (hts _ u_964) (fun _ h9 => h9) rfl dX1_insert_80 ?_
          refine lv_iconst (v := (1 : Int32)) hx hb dX1_insert_83 (by decide) ?_
          refine lv_iadd hx hb dX1_insert_84 ?_
          refine va_put (D := G.1) (ci := 5) (v := .int (dL.1 + (1 : Int32))) (ty := .int) (C := RX1) (T := TX1) (N := 4) hx hb hts uws_X1 tyX1 tyX1_ok nmX1 hown hK hP hD hS 3 rfl rfl 0 (by decide) (hts _ u_964) (fun _ h9 => h9) rfl (by decide +kernel) rfl rfl (Nat.le_of_ble_eq_true rfl) dX1_insert_85 (fun H locs hP hD hS => ?_)
          have hP : va_P G.1 vwCl (fl [[cArr G dh3 12 u_10], [cArr G dh2 12 u_5], [cArr G dh1 12 u_3], [(dh0, .inr (5, [.int (dL.1 + (1 : Int32)), .ref dh1, .ref dh2, .ref dh3]))]]) H := hP
          have hD : va_D A (fl [[cArr G dh3 12 u_10], [cArr G dh2 12 u_5], [cArr G dh1 12 u_3], [(dh0, .inr (5, [.int (dL.1 + (1 : Int32)), .ref dh1, .ref dh2, .ref dh3]))]]) := hD
          refine lv_aload_n hx hb dX1_insert_88 rfl (lv_at hl 1 rfl) ?_
          refine va_get (D := G.1) (ci := 5) (v := .int (dL.1 + (1 : Int32))) (C := RX1) (T := TX1) (N := 4) hx hb hts uws_X1 hown hK hP 3 rfl rfl 0 (by decide) (hts _ u_964) (fun _ h9 => h9) rfl dX1_insert_89 ?_
          have hP := fl_sub (cs := [[(dh0, .inr (5, [.int (dL.1 + (1 : Int32)), .ref dh1, .ref dh2, .ref dh3]))], [cArr G dh1 12 u_3], [cArr G dh2 12 u_5], [cArr G dh3 12 u_10]]) [3, 2, 1, 0] rfl hP
          have hD := fl_subD (cs := [[(dh0, .inr (5, [.int (dL.1 + (1 : Int32)), .ref dh1, .ref dh2, .ref dh3]))], [cArr G dh1 12 u_3], [cArr G dh2 12 u_5], [cArr G dh3 12 u_10]]) [3, 2, 1, 0] rfl rfl hD
          exact w_ret (u := ((dL.1 + (1 : Int32)), ((dL.1 + (1 : Int32)), u_3, u_5, u_10))) hx hb hr hlk rfl hS rfl hF.symm hP hD (Nat.le_of_ble_eq_true rfl) (Nat.le_of_ble_eq_true rfl) dX1_insert_92
      · have hF := hF.trans (if_neg c_1)
        refine lv_aload_n hx hb dX1_insert_11 rfl (lv_at hl 1 rfl) ?_
        refine lv_iload hx hb dX1_insert_12 (lv_at hl 0 rfl) ?_
        refine lv_iconst (v := (1 : Int32)) hx hb dX1_insert_14 (by decide) ?_
        refine lv_isub hx hb dX1_insert_15 ?_
        refine lv_iload_n hx hb dX1_insert_16 rfl (lv_at hl 2 rfl) ?_
        refine lv_iload_n hx hb dX1_insert_17 rfl (lv_at hl 3 rfl) ?_
        refine r_V (own := RX1) (v := (some (.int (f_X1_isAfter dL (x4 - (1 : Int32)) dr dy)))) (st1 := [.int (f_X1_isAfter dL (x4 - (1 : Int32)) dr dy)]) (As := [.int (x4 - (1 : Int32)), .int dr, .int dy]) (rest := []) (c_X1_isAfter l G dh0 dh1 dh2 dh3 dL (x4 - (1 : Int32)) dr dy) ⟨hx, hb, hml, hown, hts⟩ g_X1_35 hdv_X1_isAfter hK hST hS hP [0, 1, 2, 3] rfl (k0 := 0) rfl rfl rfl ⟨Nat.le_of_ble_eq_true rfl, Nat.le_of_ble_eq_true rfl⟩ ⟨Nat.le_of_ble_eq_true rfl, Nat.le_of_ble_eq_true rfl⟩ rfl hl.1 rfl (Nat.le_of_ble_eq_true rfl) dX1_insert_18 rfl (fun b_11 => ?_)
        refine lv_if_eq (tgt := 40) hx hb dX1_insert_21 (by decide) (fun c_12 => ?_) (fun c_12 => ?_)
        · have hF := hF.trans (if_pos c_12)
          refine lv_aload_n hx hb dX1_insert_40 rfl (lv_at hl 1 rfl) ?_
          refine va_get (D := G.1) (ci := 5) (v := .ref dh1) (C := RX1) (T := TX1) (N := 4) hx hb hts uws_X1 hown hK hP 0 rfl rfl 1 (by decide) (hts _ u_967) (fun _ h9 => h9) rfl dX1_insert_41 ?_
          refine lv_iload hx hb dX1_insert_44 (lv_at hl 0 rfl) ?_
          refine lv_iload_n hx hb dX1_insert_46 rfl (lv_at hl 2 rfl) ?_
          have hP : va_P G.1 vwCl (fl [[(dh0, .inr (5, [.int dL.1, .ref dh1, .ref dh2, .ref dh3]))], [cArr G dh1 12 dL.2.1], [cArr G dh2 12 dL.2.2.1], [cArr G dh3 12 dL.2.2.2]]) H := hP
          have hD : va_D A (fl [[(dh0, .inr (5, [.int dL.1, .ref dh1, .ref dh2, .ref dh3]))], [cArr G dh1 12 dL.2.1], [cArr G dh2 12 dL.2.2.1], [cArr G dh3 12 dL.2.2.2]]) := hD
          refine w_S (own := RX1) (cs := [[cArr G dh1 12 dL.2.1]]) (rs := [[(dh0, .inr (5, [.int dL.1, .ref dh1, .ref dh2, .ref dh3]))], [cArr G dh2 12 dL.2.2.1], [cArr G dh3 12 dL.2.2.2]]) (As := [.ref dh1, .int x4, .int dr]) (rest := []) (c_X7_put l G dh1 H.size 12 dL.2.1 x4 dr (by decide)) ⟨hx, hb, hml, hown, hts⟩ g_X1_43 hds_X7_put hK hST hS hP hD hA [1] [0, 2, 3] rfl rfl rfl ⟨Nat.le_of_ble_eq_true rfl, Nat.le_of_ble_eq_true rfl⟩ ⟨Nat.le_of_ble_eq_true rfl, Nat.le_of_ble_eq_true rfl⟩ rfl hl.1 rfl (Nat.le_of_ble_eq_true rfl) dX1_insert_47 (fun u_14 H locs huu hP hD hS => ?_)
          have eu_14 := huu
          have hP : va_P G.1 vwCl (fl [[cArr G dh1 12 u_14], [(dh0, .inr (5, [.int dL.1, .ref dh1, .ref dh2, .ref dh3]))], [cArr G dh2 12 dL.2.2.1], [cArr G dh3 12 dL.2.2.2]]) H := hP
          have hD : va_D A (fl [[cArr G dh1 12 u_14], [(dh0, .inr (5, [.int dL.1, .ref dh1, .ref dh2, .ref dh3]))], [cArr G dh2 12 dL.2.2.1], [cArr G dh3 12 dL.2.2.2]]) := hD
          refine W.eq (g2 := F0 m 50 ls []) rfl ?_
          have hF : f_X1_insert d dr dy op = (let u_16 : (Nat → Int32) := (f_X7_put 12 dL.2.2.1 x4 dy); (if op = (0 : Int32) then (let u_19 : (Nat → Int32) := (f_X7_put 12 dL.2.2.2 x4 (2 : Int32)); ((dL.1 + (1 : Int32)), ((dL.1 + (1 : Int32)), u_14, u_16, u_19))) else (let u_21 : (Nat → Int32) := (f_X7_put 12 dL.2.2.2 x4 (1 : Int32)); ((dL.1 + (1 : Int32)), ((dL.1 + (1 : Int32)), u_14, u_16, u_21))))) := by subst eu_14; exact hF
          refine lv_aload_n hx hb dX1_insert_50 rfl (lv_at hl 1 rfl) ?_
          refine va_get (D := G.1) (ci := 5) (v := .ref dh2) (C := RX1) (T := TX1) (N := 4) hx hb hts uws_X1 hown hK hP 1 rfl rfl 2 (by decide) (hts _ u_968) (fun _ h9 => h9) rfl dX1_insert_51 ?_
          refine lv_iload hx hb dX1_insert_54 (lv_at hl 0 rfl) ?_
          refine lv_iload_n hx hb dX1_insert_56 rfl (lv_at hl 3 rfl) ?_
          refine w_S (own := RX1) (cs := [[cArr G dh2 12 dL.2.2.1]]) (rs := [[cArr G dh1 12 u_14], [(dh0, .inr (5, [.int dL.1, .ref dh1, .ref dh2, .ref dh3]))], [cArr G dh3 12 dL.2.2.2]]) (As := [.ref dh2, .int x4, .int dy]) (rest := []) (c_X7_put l G dh2 H.size 12 dL.2.2.1 x4 dy (by decide)) ⟨hx, hb, hml, hown, hts⟩ g_X1_43 hds_X7_put hK hST hS hP hD hA [2] [0, 1, 3] rfl rfl rfl ⟨Nat.le_of_ble_eq_true rfl, Nat.le_of_ble_eq_true rfl⟩ ⟨Nat.le_of_ble_eq_true rfl, Nat.le_of_ble_eq_true rfl⟩ rfl hl.1 rfl (Nat.le_of_ble_eq_true rfl) dX1_insert_57 (fun u_16 H locs huu hP hD hS => ?_)
          have eu_16 := huu
          have hP : va_P G.1 vwCl (fl [[cArr G dh2 12 u_16], [cArr G dh1 12 u_14], [(dh0, .inr (5, [.int dL.1, .ref dh1, .ref dh2, .ref dh3]))], [cArr G dh3 12 dL.2.2.2]]) H := hP
          have hD : va_D A (fl [[cArr G dh2 12 u_16], [cArr G dh1 12 u_14], [(dh0, .inr (5, [.int dL.1, .ref dh1, .ref dh2, .ref dh3]))], [cArr G dh3 12 dL.2.2.2]]) := hD
          refine W.eq (g2 := F0 m 60 ls []) rfl ?_
          have hF : f_X1_insert d dr dy op = (if op = (0 : Int32) then (let u_19 : (Nat → Int32) := (f_X7_put 12 dL.2.2.2 x4 (2 : Int32)); ((dL.1 + (1 : Int32)), ((dL.1 + (1 : Int32)), u_14, u_16, u_19))) else (let u_21 : (Nat → Int32) := (f_X7_put 12 dL.2.2.2 x4 (1 : Int32)); ((dL.1 + (1 : Int32)), ((dL.1 + (1 : Int32)), u_14, u_16, u_21)))) := by subst eu_16; exact hF
          refine lv_aload_n hx hb dX1_insert_60 rfl (lv_at hl 1 rfl) ?_
          refine va_get (D := G.1) (ci := 5) (v := .ref dh3) (C := RX1) (T := TX1) (N := 4) hx hb hts uws_X1 hown hK hP 2 rfl rfl 3 (by decide) (hts _ u_969) (fun _ h9 => h9) rfl dX1_insert_61 ?_
          refine lv_iload hx hb dX1_insert_64 (lv_at hl 0 rfl) ?_
          refine lv_iload_n hx hb dX1_insert_66 rfl (lv_at hl 4 rfl) ?_
          refine lv_if_eq (tgt := 74) hx hb dX1_insert_67 (by decide) (fun c_17 => ?_) (fun c_17 => ?_)
          · have hF := hF.trans (if_pos c_17)
            refine lv_iconst (v := (2 : Int32)) hx hb dX1_insert_74 (by decide) ?_
            refine w_S (own := RX1) (cs := [[cArr G dh3 12 dL.2.2.2]]) (rs := [[cArr G dh2 12 u_16], [cArr G dh1 12 u_14], [(dh0, .inr (5, [.int dL.1, .ref dh1, .ref dh2, .ref dh3]))]]) (As := [.ref dh3, .int x4, .int (2 : Int32)]) (rest := []) (c_X7_put l G dh3 H.size 12 dL.2.2.2 x4 (2 : Int32) (by decide)) ⟨hx, hb, hml, hown, hts⟩ g_X1_43 hds_X7_put hK hST hS hP hD hA [3] [0, 1, 2] rfl rfl rfl ⟨Nat.le_of_ble_eq_true rfl, Nat.le_of_ble_eq_true rfl⟩ ⟨Nat.le_of_ble_eq_true rfl, Nat.le_of_ble_eq_true rfl⟩ rfl hl.1 rfl (Nat.le_of_ble_eq_true rfl) dX1_insert_75 (fun u_19 H locs huu hP hD hS => ?_)
            have eu_19 := huu
            have hP : va_P G.1 vwCl (fl [[cArr G dh3 12 u_19], [cArr G dh2 12 u_16], [cArr G dh1 12 u_14], [(dh0, .inr (5, [.int dL.1, .ref dh1, .ref dh2, .ref dh3]))]]) H := hP
            have hD : va_D A (fl [[cArr G dh3 12 u_19], [cArr G dh2 12 u_16], [cArr G dh1 12 u_14], [(dh0, .inr (5, [.int dL.1, .ref dh1, .ref dh2, .ref dh3]))]]) := hD
            refine W.eq (g2 := F0 m 78 ls []) rfl ?_
            have hF : f_X1_insert d dr dy op = ((dL.1 + (1 : Int32)), ((dL.1 + (1 : Int32)), u_14, u_16, u_19)) := by subst eu_19; exact hF
            refine lv_aload_n hx hb dX1_insert_78 rfl (lv_at hl 1 rfl) ?_
            refine lv_dup hx hb dX1_insert_79 rfl ?_
            refine va_get (D := G.1) (ci := 5) (v := .int dL.1) (C := RX1) (T := TX1) (N := 4) hx hb hts uws_X1 hown hK hP 3 rfl rfl 0 (by decide) (hts _ u_964) (fun _ h9 => h9) rfl dX1_insert_80 ?_
            refine lv_iconst (v := (1 : Int32)) hx hb dX1_insert_83 (by decide) ?_
            refine lv_iadd hx hb dX1_insert_84 ?_
            refine va_put (D := G.1) (ci := 5) (v := .int (dL.1 + (1 : Int32))) (ty := .int) (C := RX1) (T := TX1) (N := 4) hx hb hts uws_X1 tyX1 tyX1_ok nmX1 hown hK hP hD hS 3 rfl rfl 0 (by decide) (hts _ u_964) (fun _ h9 => h9) rfl (by decide +kernel) rfl rfl (Nat.le_of_ble_eq_true rfl) dX1_insert_85 (fun H locs hP hD hS => ?_)
            have hP : va_P G.1 vwCl (fl [[cArr G dh3 12 u_19], [cArr G dh2 12 u_16], [cArr G dh1 12 u_14], [(dh0, .inr (5, [.int (dL.1 + (1 : Int32)), .ref dh1, .ref dh2, .ref dh3]))]]) H := hP
            have hD : va_D A (fl [[cArr G dh3 12 u_19], [cArr G dh2 12 u_16], [cArr G dh1 12 u_14], [(dh0, .inr (5, [.int (dL.1 + (1 : Int32)), .ref dh1, .ref dh2, .ref dh3]))]]) := hD
            refine lv_aload_n hx hb dX1_insert_88 rfl (lv_at hl 1 rfl) ?_
            refine va_get (D := G.1) (ci := 5) (v := .int (dL.1 + (1 : Int32))) (C := RX1) (T := TX1) (N := 4) hx hb hts uws_X1 hown hK hP 3 rfl rfl 0 (by decide) (hts _ u_964) (fun _ h9 => h9) rfl dX1_insert_89 ?_
            have hP := fl_sub (cs := [[(dh0, .inr (5, [.int (dL.1 + (1 : Int32)), .ref dh1, .ref dh2, .ref dh3]))], [cArr G dh1 12 u_14], [cArr G dh2 12 u_16], [cArr G dh3 12 u_19]]) [3, 2, 1, 0] rfl hP
            have hD := fl_subD (cs := [[(dh0, .inr (5, [.int (dL.1 + (1 : Int32)), .ref dh1, .ref dh2, .ref dh3]))], [cArr G dh1 12 u_14], [cArr G dh2 12 u_16], [cArr G dh3 12 u_19]]) [3, 2, 1, 0] rfl rfl hD
            exact w_ret (u := ((dL.1 + (1 : Int32)), ((dL.1 + (1 : Int32)), u_14, u_16, u_19))) hx hb hr hlk rfl hS rfl hF.symm hP hD (Nat.le_of_ble_eq_true rfl) (Nat.le_of_ble_eq_true rfl) dX1_insert_92
          · have hF := hF.trans (if_neg c_17)
            refine lv_iconst (v := (1 : Int32)) hx hb dX1_insert_70 (by decide) ?_
            refine lv_goto (tgt := 75) hx hb dX1_insert_71 (by decide) ?_
            refine w_S (own := RX1) (cs := [[cArr G dh3 12 dL.2.2.2]]) (rs := [[cArr G dh2 12 u_16], [cArr G dh1 12 u_14], [(dh0, .inr (5, [.int dL.1, .ref dh1, .ref dh2, .ref dh3]))]]) (As := [.ref dh3, .int x4, .int (1 : Int32)]) (rest := []) (c_X7_put l G dh3 H.size 12 dL.2.2.2 x4 (1 : Int32) (by decide)) ⟨hx, hb, hml, hown, hts⟩ g_X1_43 hds_X7_put hK hST hS hP hD hA [3] [0, 1, 2] rfl rfl rfl ⟨Nat.le_of_ble_eq_true rfl, Nat.le_of_ble_eq_true rfl⟩ ⟨Nat.le_of_ble_eq_true rfl, Nat.le_of_ble_eq_true rfl⟩ rfl hl.1 rfl (Nat.le_of_ble_eq_true rfl) dX1_insert_75 (fun u_21 H locs huu hP hD hS => ?_)
            have eu_21 := huu
            have hP : va_P G.1 vwCl (fl [[cArr G dh3 12 u_21], [cArr G dh2 12 u_16], [cArr G dh1 12 u_14], [(dh0, .inr (5, [.int dL.1, .ref dh1, .ref dh2, .ref dh3]))]]) H := hP
            have hD : va_D A (fl [[cArr G dh3 12 u_21], [cArr G dh2 12 u_16], [cArr G dh1 12 u_14], [(dh0, .inr (5, [.int dL.1, .ref dh1, .ref dh2, .ref dh3]))]]) := hD
            refine W.eq (g2 := F0 m 78 ls []) rfl ?_
            have hF : f_X1_insert d dr dy op = ((dL.1 + (1 : Int32)), ((dL.1 + (1 : Int32)), u_14, u_16, u_21)) := by subst eu_21; exact hF
            refine lv_aload_n hx hb dX1_insert_78 rfl (lv_at hl 1 rfl) ?_
            refine lv_dup hx hb dX1_insert_79 rfl ?_
            refine va_get (D := G.1) (ci := 5) (v := .int dL.1) (C := RX1) (T := TX1) (N := 4) hx hb hts uws_X1 hown hK hP 3 rfl rfl 0 (by decide) (hts _ u_964) (fun _ h9 => h9) rfl dX1_insert_80 ?_
            refine lv_iconst (v := (1 : Int32)) hx hb dX1_insert_83 (by decide) ?_
            refine lv_iadd hx hb dX1_insert_84 ?_
            refine va_put (D := G.1) (ci := 5) (v := .int (dL.1 + (1 : Int32))) (ty := .int) (C := RX1) (T := TX1) (N := 4) hx hb hts uws_X1 tyX1 tyX1_ok nmX1 hown hK hP hD hS 3 rfl rfl 0 (by decide) (hts _ u_964) (fun _ h9 => h9) rfl (by decide +kernel) rfl rfl (Nat.le_of_ble_eq_true rfl) dX1_insert_85 (fun H locs hP hD hS => ?_)
            have hP : va_P G.1 vwCl (fl [[cArr G dh3 12 u_21], [cArr G dh2 12 u_16], [cArr G dh1 12 u_14], [(dh0, .inr (5, [.int (dL.1 + (1 : Int32)), .ref dh1, .ref dh2, .ref dh3]))]]) H := hP
            have hD : va_D A (fl [[cArr G dh3 12 u_21], [cArr G dh2 12 u_16], [cArr G dh1 12 u_14], [(dh0, .inr (5, [.int (dL.1 + (1 : Int32)), .ref dh1, .ref dh2, .ref dh3]))]]) := hD
            refine lv_aload_n hx hb dX1_insert_88 rfl (lv_at hl 1 rfl) ?_
            refine va_get (D := G.1) (ci := 5) (v := .int (dL.1 + (1 : Int32))) (C := RX1) (T := TX1) (N := 4) hx hb hts uws_X1 hown hK hP 3 rfl rfl 0 (by decide) (hts _ u_964) (fun _ h9 => h9) rfl dX1_insert_89 ?_
            have hP := fl_sub (cs := [[(dh0, .inr (5, [.int (dL.1 + (1 : Int32)), .ref dh1, .ref dh2, .ref dh3]))], [cArr G dh1 12 u_14], [cArr G dh2 12 u_16], [cArr G dh3 12 u_21]]) [3, 2, 1, 0] rfl hP
            have hD := fl_subD (cs := [[(dh0, .inr (5, [.int (dL.1 + (1 : Int32)), .ref dh1, .ref dh2, .ref dh3]))], [cArr G dh1 12 u_14], [cArr G dh2 12 u_16], [cArr G dh3 12 u_21]]) [3, 2, 1, 0] rfl rfl hD
            exact w_ret (u := ((dL.1 + (1 : Int32)), ((dL.1 + (1 : Int32)), u_14, u_16, u_21))) hx hb hr hlk rfl hS rfl hF.symm hP hD (Nat.le_of_ble_eq_true rfl) (Nat.le_of_ble_eq_true rfl) dX1_insert_92
        · have hF := hF.trans (if_neg c_12)
          refine lv_aload_n hx hb dX1_insert_24 rfl (lv_at hl 1 rfl) ?_
          refine lv_iload hx hb dX1_insert_25 (lv_at hl 0 rfl) ?_
          refine lv_iconst (v := (1 : Int32)) hx hb dX1_insert_27 (by decide) ?_
          refine lv_isub hx hb dX1_insert_28 ?_
          refine lv_iload hx hb dX1_insert_29 (lv_at hl 0 rfl) ?_
          refine w_V (own := RX1) (cs := [wEx G dh0 dh1 dh2 dh3 dL]) (rs := []) (As := [.int (x4 - (1 : Int32)), .int x4]) (rest := []) (c_X1_move l G dh0 dh1 dh2 dh3 H.size dL (x4 - (1 : Int32)) x4) ⟨hx, hb, hml, hown, hts⟩ g_X1_39 hdv_X1_move hK hST hS hP hD hA [0] [] rfl rfl rfl (k0 := 0) rfl rfl rfl ⟨Nat.le_of_ble_eq_true rfl, Nat.le_of_ble_eq_true rfl⟩ ⟨Nat.le_of_ble_eq_true rfl, Nat.le_of_ble_eq_true rfl⟩ rfl hl.1 rfl (Nat.le_of_ble_eq_true rfl) dX1_insert_31 (fun u_23 H locs huu hP hD hS => ?_)
          have eu_23 := huu
          have hP : va_P G.1 vwCl (fl [wEx G dh0 dh1 dh2 dh3 u_23]) H := hP
          have hD : va_D A (fl [wEx G dh0 dh1 dh2 dh3 u_23]) := hD
          refine W.eq (g2 := F0 m 34 ls []) rfl ?_
          have hF : f_X1_insert d dr dy op = (lp_X1_insert_6 d dr dy op n (x4 + (-1)) u_23) := by subst eu_23; exact hF
          refine lv_iinc (v := (x4 + (-1))) (lv' := [(4, .int (x4 + (-1))), (0, .ref dh0), (1, .int dr), (2, .int dy), (3, .int op)]) hx hb dX1_insert_34 hl (k := 0) rfl rfl (by decide) rfl (fun ls hl => ?_)
          refine lv_goto (tgt := 6) hx hb dX1_insert_37 (by decide) ?_
          exact ih (x4 + (-1)) u_23 _ _ ls (lv_sub hl [0, 1, 2, 3, 4] rfl) hP hD hS (dnI_s (Int32.not_le.mp c_1) hu) hF
  exact L6 ((d.1).toInt.toNat + 1) d.1 d _ _ ls (lv_sub hl [0, 1, 2, 3, 4] rfl) hP hD hS (dnI_i) hF
theorem dX1_remove_0 : decode cX1_remove 0 = .ok (.aload_n 0, 1) := by decide +kernel
theorem dX1_remove_1 : decode cX1_remove 1 = .ok (.iload_n 1, 1) := by decide +kernel
theorem dX1_remove_2 : decode cX1_remove 2 = .ok (.iload_n 2, 1) := by decide +kernel
theorem dX1_remove_3 : decode cX1_remove 3 = .ok (.invokevirtual 47, 3) := by decide +kernel
theorem u_1232 : Cond.methodLink RX1 47 yX1_positionOf ∈ UW := uw 1232 (by decide +kernel) rfl
theorem u_520 : Cond.instanceMethod yX1_positionOf ∈ UW := uw 520 (by decide +kernel) rfl
theorem u_521 : Cond.selects RX1 yX1_positionOf yX1_positionOf ∈ UW := uw 521 (by decide +kernel) rfl
theorem u_522 : Cond.code yX1_positionOf cX1_positionOf 4 (some .int) ∈ UW := uw 522 (by decide +kernel) rfl
theorem g_X1_47 : GoodIn UW (wsV RX1 47 RX1 yX1_positionOf (wsU yX1_positionOf cX1_positionOf 4 (some .int))) := gV u_1232 u_520 u_521 u_24 u_522
theorem hdv_X1_positionOf : yX1_positionOf.cls = RX1 ∧ yX1_positionOf.cls ≠ "java/lang/invoke/MethodHandle" ∧ yX1_positionOf.cls ≠ "java/lang/invoke/VarHandle" ∧ (parseMethodDescriptor yX1_positionOf.desc).map (fun d => d.parameters.length) = some 2 := by decide +kernel
theorem dX1_remove_6 : decode cX1_remove 6 = .ok (.istore_n 3, 1) := by decide +kernel
theorem dX1_remove_7 : decode cX1_remove 7 = .ok (.iload_n 3, 1) := by decide +kernel
theorem dX1_remove_8 : decode cX1_remove 8 = .ok (.iconst (-1), 1) := by decide +kernel
theorem dX1_remove_9 : decode cX1_remove 9 = .ok (.if_icmp .ne 5, 3) := by decide +kernel
theorem dX1_remove_14 : decode cX1_remove 14 = .ok (.aload_n 0, 1) := by decide +kernel
theorem dX1_remove_15 : decode cX1_remove 15 = .ok (.iload_n 3, 1) := by decide +kernel
theorem dX1_remove_16 : decode cX1_remove 16 = .ok (.invokevirtual 51, 3) := by decide +kernel
theorem u_1233 : Cond.methodLink RX1 51 yX1_effectAt ∈ UW := uw 1233 (by decide +kernel) rfl
theorem u_525 : Cond.instanceMethod yX1_effectAt ∈ UW := uw 525 (by decide +kernel) rfl
theorem u_526 : Cond.selects RX1 yX1_effectAt yX1_effectAt ∈ UW := uw 526 (by decide +kernel) rfl
theorem u_527 : Cond.code yX1_effectAt cX1_effectAt 2 (some .int) ∈ UW := uw 527 (by decide +kernel) rfl
theorem g_X1_51 : GoodIn UW (wsV RX1 51 RX1 yX1_effectAt (wsU yX1_effectAt cX1_effectAt 2 (some .int))) := gV u_1233 u_525 u_526 u_24 u_527
theorem hdv_X1_effectAt : yX1_effectAt.cls = RX1 ∧ yX1_effectAt.cls ≠ "java/lang/invoke/MethodHandle" ∧ yX1_effectAt.cls ≠ "java/lang/invoke/VarHandle" ∧ (parseMethodDescriptor yX1_effectAt.desc).map (fun d => d.parameters.length) = some 1 := by decide +kernel
theorem dX1_remove_19 : decode cX1_remove 19 = .ok (.iconst 1, 1) := by decide +kernel
theorem dX1_remove_20 : decode cX1_remove 20 = .ok (.if_icmp .ne 7, 3) := by decide +kernel
theorem dX1_remove_27 : decode cX1_remove 27 = .ok (.iconst 0, 1) := by decide +kernel
theorem dX1_remove_28 : decode cX1_remove 28 = .ok (.istore 4, 2) := by decide +kernel
theorem dX1_remove_30 : decode cX1_remove 30 = .ok (.iload_n 3, 1) := by decide +kernel
theorem dX1_remove_31 : decode cX1_remove 31 = .ok (.iconst 1, 1) := by decide +kernel
theorem dX1_remove_32 : decode cX1_remove 32 = .ok (.iadd, 1) := by decide +kernel
theorem dX1_remove_33 : decode cX1_remove 33 = .ok (.istore 5, 2) := by decide +kernel
theorem dX1_remove_35 : decode cX1_remove 35 = .ok (.iload 5, 2) := by decide +kernel
theorem dX1_remove_37 : decode cX1_remove 37 = .ok (.aload_n 0, 1) := by decide +kernel
theorem dX1_remove_38 : decode cX1_remove 38 = .ok (.getfield 9, 3) := by decide +kernel
theorem dX1_remove_41 : decode cX1_remove 41 = .ok (.if_icmp .ge 19, 3) := by decide +kernel
theorem dX1_remove_60 : decode cX1_remove 60 = .ok (.aload_n 0, 1) := by decide +kernel
theorem dX1_remove_61 : decode cX1_remove 61 = .ok (.dup, 1) := by decide +kernel
theorem dX1_remove_62 : decode cX1_remove 62 = .ok (.getfield 9, 3) := by decide +kernel
theorem dX1_remove_65 : decode cX1_remove 65 = .ok (.iconst 1, 1) := by decide +kernel
theorem dX1_remove_66 : decode cX1_remove 66 = .ok (.isub, 1) := by decide +kernel
theorem dX1_remove_67 : decode cX1_remove 67 = .ok (.putfield 9, 3) := by decide +kernel
theorem dX1_remove_70 : decode cX1_remove 70 = .ok (.iload 4, 2) := by decide +kernel
theorem dX1_remove_72 : decode cX1_remove 72 = .ok (.ireturn, 1) := by decide +kernel
theorem dX1_remove_44 : decode cX1_remove 44 = .ok (.aload_n 0, 1) := by decide +kernel
theorem dX1_remove_45 : decode cX1_remove 45 = .ok (.iload 5, 2) := by decide +kernel
theorem dX1_remove_47 : decode cX1_remove 47 = .ok (.iload 5, 2) := by decide +kernel
theorem dX1_remove_49 : decode cX1_remove 49 = .ok (.iconst 1, 1) := by decide +kernel
theorem dX1_remove_50 : decode cX1_remove 50 = .ok (.isub, 1) := by decide +kernel
theorem dX1_remove_51 : decode cX1_remove 51 = .ok (.invokevirtual 39, 3) := by decide +kernel
theorem dX1_remove_54 : decode cX1_remove 54 = .ok (.iinc 5 1, 3) := by decide +kernel
theorem dX1_remove_57 : decode cX1_remove 57 = .ok (.goto (-22), 3) := by decide +kernel
theorem dX1_remove_23 : decode cX1_remove 23 = .ok (.iconst 1, 1) := by decide +kernel
theorem dX1_remove_24 : decode cX1_remove 24 = .ok (.goto 4, 3) := by decide +kernel
theorem dX1_remove_12 : decode cX1_remove 12 = .ok (.iconst 0, 1) := by decide +kernel
theorem dX1_remove_13 : decode cX1_remove 13 = .ok (.ireturn, 1) := by decide +kernel
def lp_X1_remove_35 (d : ExV) (dr : Int32) (dy : Int32) (y_2 : Int32) : Nat → Int32 → ExV → Int32 × ExV
  | 0, _, _ => (0, d)
  | n + 1, x5, dL => (if dL.1 ≤ x5 then ((0 : Int32), ((dL.1 - (1 : Int32)), dL.2.1, dL.2.2.1, dL.2.2.2)) else (let u_8 : ExV := (f_X1_move dL x5 (x5 - (1 : Int32))); (lp_X1_remove_35 d dr dy y_2 n (x5 + 1) u_8)))
def lp_X1_remove_35' (d : ExV) (dr : Int32) (dy : Int32) (y_2 : Int32) : Nat → Int32 → ExV → Int32 × ExV
  | 0, _, _ => (0, d)
  | n + 1, x5, dL => (if dL.1 ≤ x5 then ((1 : Int32), ((dL.1 - (1 : Int32)), dL.2.1, dL.2.2.1, dL.2.2.2)) else (let u_11 : ExV := (f_X1_move dL x5 (x5 - (1 : Int32))); (lp_X1_remove_35' d dr dy y_2 n (x5 + 1) u_11)))
def f_X1_remove (d : ExV) (dr : Int32) (dy : Int32) : Int32 × ExV := (let y_2 : Int32 := (f_X1_positionOf d dr dy); (if y_2 = (-1 : Int32) then ((0 : Int32), d) else (if (f_X1_effectAt d y_2) = (1 : Int32) then (lp_X1_remove_35' d dr dy y_2 (((d.1).toInt - (y_2 + (1 : Int32)).toInt).toNat + 1) (y_2 + (1 : Int32)) d) else (lp_X1_remove_35 d dr dy y_2 (((d.1).toInt - (y_2 + (1 : Int32)).toInt).toNat + 1) (y_2 + (1 : Int32)) d))))
set_option maxHeartbeats 4000000 in
set_option maxRecDepth 100000 in
theorem c_X1_remove (l : Launch) (G : GG) (dh0 : Nat) (dh1 : Nat) (dh2 : Nat) (dh3 : Nat) (sz : Nat) (d : ExV) (dr : Int32) (dy : Int32) : wMet l yX1_remove cX1_remove 6 (some .boolean) 3 0 0 G (fl [wEx G dh0 dh1 dh2 dh3 d]) [.ref dh0, .int dr, .int dy] sz (fun u : Int32 × ExV => some (.int u.1)) (fun u : Int32 × ExV => u = f_X1_remove d dr dy ∧ narrow .boolean (.int ((f_X1_remove d dr dy).1)) = .int ((f_X1_remove d dr dy).1)) (fun u : Int32 × ExV => fl [wEx G dh0 dh1 dh2 dh3 u.2]) := by
  refine w_start (by decide +kernel) (Nat.le_of_ble_eq_true rfl) ?_
  intro p e s m below meth c A hx hb hr hml hts hown hlk hin hP hD hA hK hST ls hl
  have hS : va_S A s.heap s.heap [] := va_S.rf
  have hown : s.vm.findClass RX1 = some m.cls := hown
  have hl : lv_has ls 6 [(0, .ref dh0), (1, .int dr), (2, .int dy)] := hl
  have hF : f_X1_remove d dr dy = (let y_2 : Int32 := (f_X1_positionOf d dr dy); (if y_2 = (-1 : Int32) then ((0 : Int32), d) else (if (f_X1_effectAt d y_2) = (1 : Int32) then (lp_X1_remove_35' d dr dy y_2 (((d.1).toInt - (y_2 + (1 : Int32)).toInt).toNat + 1) (y_2 + (1 : Int32)) d) else (lp_X1_remove_35 d dr dy y_2 (((d.1).toInt - (y_2 + (1 : Int32)).toInt).toNat + 1) (y_2 + (1 : Int32)) d)))) := rfl
  refine lv_aload_n hx hb dX1_remove_0 rfl (lv_at hl 0 rfl) ?_
  refine lv_iload_n hx hb dX1_remove_1 rfl (lv_at hl 1 rfl) ?_
  refine lv_iload_n hx hb dX1_remove_2 rfl (lv_at hl 2 rfl) ?_
  refine r_V (own := RX1) (v := (some (.int (f_X1_positionOf d dr dy)))) (st1 := [.int (f_X1_positionOf d dr dy)]) (As := [.int dr, .int dy]) (rest := []) (c_X1_positionOf l G dh0 dh1 dh2 dh3 d dr dy) ⟨hx, hb, hml, hown, hts⟩ g_X1_47 hdv_X1_positionOf hK hST hS hP [0, 1, 2, 3] rfl (k0 := 0) rfl rfl rfl ⟨Nat.le_of_ble_eq_true rfl, Nat.le_of_ble_eq_true rfl⟩ ⟨Nat.le_of_ble_eq_true rfl, Nat.le_of_ble_eq_true rfl⟩ rfl hl.1 rfl (Nat.le_of_ble_eq_true rfl) dX1_remove_3 rfl (fun b_1 => ?_)
  refine lv_topi (fun y_2 ey_2 => ?_)
  have hF : f_X1_remove d dr dy = (if y_2 = (-1 : Int32) then ((0 : Int32), d) else (if (f_X1_effectAt d y_2) = (1 : Int32) then (lp_X1_remove_35' d dr dy y_2 (((d.1).toInt - (y_2 + (1 : Int32)).toInt).toNat + 1) (y_2 + (1 : Int32)) d) else (lp_X1_remove_35 d dr dy y_2 (((d.1).toInt - (y_2 + (1 : Int32)).toInt).toNat + 1) (y_2 + (1 : Int32)) d))) := by subst ey_2; exact hF
  refine lv_istore_n (lv' := [(3, .int y_2), (0, .ref dh0), (1, .int dr), (2, .int dy)]) hx hb dX1_remove_6 rfl hl (by decide) rfl (fun ls hl => ?_)
  refine lv_iload_n hx hb dX1_remove_7 rfl (lv_at hl 0 rfl) ?_
  refine lv_iconst (v := (-1 : Int32)) hx hb dX1_remove_8 (by decide) ?_
  refine lv_icmp_ne (tgt := 14) hx hb dX1_remove_9 (by decide) (fun c_3 => ?_) (fun c_3 => ?_)
  · have hF := hF.trans (if_neg c_3)
    refine lv_aload_n hx hb dX1_remove_14 rfl (lv_at hl 1 rfl) ?_
    refine lv_iload_n hx hb dX1_remove_15 rfl (lv_at hl 0 rfl) ?_
    refine r_V (own := RX1) (v := (some (.int (f_X1_effectAt d y_2)))) (st1 := [.int (f_X1_effectAt d y_2)]) (As := [.int y_2]) (rest := []) (c_X1_effectAt l G dh0 dh1 dh2 dh3 d y_2) ⟨hx, hb, hml, hown, hts⟩ g_X1_51 hdv_X1_effectAt hK hST hS hP [0, 1, 2, 3] rfl (k0 := 0) rfl rfl rfl ⟨Nat.le_of_ble_eq_true rfl, Nat.le_of_ble_eq_true rfl⟩ ⟨Nat.le_of_ble_eq_true rfl, Nat.le_of_ble_eq_true rfl⟩ rfl hl.1 rfl (Nat.le_of_ble_eq_true rfl) dX1_remove_16 rfl (fun b_4 => ?_)
    refine lv_iconst (v := (1 : Int32)) hx hb dX1_remove_19 (by decide) ?_
    refine lv_icmp_ne (tgt := 27) hx hb dX1_remove_20 (by decide) (fun c_5 => ?_) (fun c_5 => ?_)
    · have hF := hF.trans (if_neg c_5)
      refine lv_iconst (v := (0 : Int32)) hx hb dX1_remove_27 (by decide) ?_
      refine lv_istore (lv' := [(4, .int (0 : Int32)), (3, .int y_2), (0, .ref dh0), (1, .int dr), (2, .int dy)]) hx hb dX1_remove_28 hl (by decide) rfl (fun ls hl => ?_)
      refine lv_iload_n hx hb dX1_remove_30 rfl (lv_at hl 1 rfl) ?_
      refine lv_iconst (v := (1 : Int32)) hx hb dX1_remove_31 (by decide) ?_
      refine lv_iadd hx hb dX1_remove_32 ?_
      refine lv_istore (lv' := [(5, .int (y_2 + (1 : Int32))), (4, .int (0 : Int32)), (3, .int y_2), (0, .ref dh0), (1, .int dr), (2, .int dy)]) hx hb dX1_remove_33 hl (by decide) rfl (fun ls hl => ?_)
      have L35 : ∀ (n : Nat) (x5 : Int32) (dL : ExV) (H : Heap) (locs : List Loc) (ls : Array Slot), lv_has ls 6 [(5, .int x5), (4, .int (0 : Int32)), (3, .int y_2), (0, .ref dh0), (1, .int dr), (2, .int dy)] → va_P G.1 vwCl (fl [wEx G dh0 dh1 dh2 dh3 dL]) H → va_D A (fl [wEx G dh0 dh1 dh2 dh3 dL]) → va_S A s.heap H locs → (dL.1 = d.1 ∧ upI x5 d.1 n) → f_X1_remove d dr dy = lp_X1_remove_35 d dr dy y_2 n x5 dL → W p l e (rmd 3 0 0) s m ([.ref dh0, .int dr, .int dy] : List Value).toArray below meth c H locs 0 0 (MQ below (wQ (fun u : Int32 × ExV => some (.int u.1)) (fun u : Int32 × ExV => u = f_X1_remove d dr dy ∧ narrow .boolean (.int ((f_X1_remove d dr dy).1)) = .int ((f_X1_remove d dr dy).1)) (fun u : Int32 × ExV => fl [wEx G dh0 dh1 dh2 dh3 u.2]) G.1 A) ([.ref dh0, .int dr, .int dy] : List Value).toArray s 0 0 A) (F0 m 35 ls []) := by
        intro n
        induction n with
        | zero => intro x5 dL H locs ls hl _ _ _ hu; exact absurd hu (fun h => upI_0 h.2)
        | succ n ih =>
          intro x5 dL H locs ls hl hP hD hS hu hF
          have hF : f_X1_remove d dr dy = (if dL.1 ≤ x5 then ((0 : Int32), ((dL.1 - (1 : Int32)), dL.2.1, dL.2.2.1, dL.2.2.2)) else (let u_8 : ExV := (f_X1_move dL x5 (x5 - (1 : Int32))); (lp_X1_remove_35 d dr dy y_2 n (x5 + 1) u_8))) := hF
          refine lv_iload hx hb dX1_remove_35 (lv_at hl 0 rfl) ?_
          refine lv_aload_n hx hb dX1_remove_37 rfl (lv_at hl 3 rfl) ?_
          refine va_get (D := G.1) (ci := 5) (v := .int dL.1) (C := RX1) (T := TX1) (N := 4) hx hb hts uws_X1 hown hK hP 0 rfl rfl 0 (by decide) (hts _ u_964) (fun _ h9 => h9) rfl dX1_remove_38 ?_
          refine lv_icmp_ge (tgt := 60) hx hb dX1_remove_41 (by decide) (fun c_6 => ?_) (fun c_6 => ?_)
          · have hF := hF.trans (if_pos c_6)
            refine lv_aload_n hx hb dX1_remove_60 rfl (lv_at hl 3 rfl) ?_
            refine lv_dup hx hb dX1_remove_61 rfl ?_
            refine va_get (D := G.1) (ci := 5) (v := .int dL.1) (C := RX1) (T := TX1) (N := 4) hx hb hts uws_X1 hown hK hP 0 rfl rfl 0 (by decide) (hts _ u_964) (fun _ h9 => h9) rfl dX1_remove_62 ?_
            refine lv_iconst (v := (1 : Int32)) hx hb dX1_remove_65 (by decide) ?_
            refine lv_isub hx hb dX1_remove_66 ?_
            refine va_put (D := G.1) (ci := 5) (v := .int (dL.1 - (1 : Int32))) (ty := .int) (C := RX1) (T := TX1) (N := 4) hx hb hts uws_X1 tyX1 tyX1_ok nmX1 hown hK hP hD hS 0 rfl rfl 0 (by decide) (hts _ u_964) (fun _ h9 => h9) rfl (by decide +kernel) rfl rfl (Nat.le_of_ble_eq_true rfl) dX1_remove_67 (fun H locs hP hD hS => ?_)
            have hP : va_P G.1 vwCl (fl [wEx G dh0 dh1 dh2 dh3 ((dL.1 - (1 : Int32)), dL.2.1, dL.2.2.1, dL.2.2.2)]) H := hP
            have hD : va_D A (fl [wEx G dh0 dh1 dh2 dh3 ((dL.1 - (1 : Int32)), dL.2.1, dL.2.2.1, dL.2.2.2)]) := hD
            refine lv_iload hx hb dX1_remove_70 (lv_at hl 1 rfl) ?_
            exact w_ret (u := ((0 : Int32), ((dL.1 - (1 : Int32)), dL.2.1, dL.2.2.1, dL.2.2.2))) hx hb hr hlk rfl hS rfl ⟨hF.symm, (by rw [hF]; exact (rfl : narrow .boolean (.int (0 : Int32)) = .int (0 : Int32)))⟩ hP hD (Nat.le_of_ble_eq_true rfl) (Nat.le_of_ble_eq_true rfl) dX1_remove_72
          · have hF := hF.trans (if_neg c_6)
            refine lv_aload_n hx hb dX1_remove_44 rfl (lv_at hl 3 rfl) ?_
            refine lv_iload hx hb dX1_remove_45 (lv_at hl 0 rfl) ?_
            refine lv_iload hx hb dX1_remove_47 (lv_at hl 0 rfl) ?_
            refine lv_iconst (v := (1 : Int32)) hx hb dX1_remove_49 (by decide) ?_
            refine lv_isub hx hb dX1_remove_50 ?_
            refine w_V (own := RX1) (cs := [wEx G dh0 dh1 dh2 dh3 dL]) (rs := []) (As := [.int x5, .int (x5 - (1 : Int32))]) (rest := []) (c_X1_move l G dh0 dh1 dh2 dh3 H.size dL x5 (x5 - (1 : Int32))) ⟨hx, hb, hml, hown, hts⟩ g_X1_39 hdv_X1_move hK hST hS hP hD hA [0] [] rfl rfl rfl (k0 := 0) rfl rfl rfl ⟨Nat.le_of_ble_eq_true rfl, Nat.le_of_ble_eq_true rfl⟩ ⟨Nat.le_of_ble_eq_true rfl, Nat.le_of_ble_eq_true rfl⟩ rfl hl.1 rfl (Nat.le_of_ble_eq_true rfl) dX1_remove_51 (fun u_8 H locs huu hP hD hS => ?_)
            have eu_8 := huu
            have hP : va_P G.1 vwCl (fl [wEx G dh0 dh1 dh2 dh3 u_8]) H := hP
            have hD : va_D A (fl [wEx G dh0 dh1 dh2 dh3 u_8]) := hD
            refine W.eq (g2 := F0 m 54 ls []) rfl ?_
            have hF : f_X1_remove d dr dy = (lp_X1_remove_35 d dr dy y_2 n (x5 + 1) u_8) := by subst eu_8; exact hF
            refine lv_iinc (v := (x5 + 1)) (lv' := [(5, .int (x5 + 1)), (4, .int (0 : Int32)), (3, .int y_2), (0, .ref dh0), (1, .int dr), (2, .int dy)]) hx hb dX1_remove_54 hl (k := 0) rfl rfl (by decide) rfl (fun ls hl => ?_)
            refine lv_goto (tgt := 35) hx hb dX1_remove_57 (by decide) ?_
            exact ih (x5 + 1) u_8 _ _ ls (lv_sub hl [0, 1, 2, 3, 4, 5] rfl) hP hD hS (⟨by subst_vars; exact hu.1, upI_s (by rw [← hu.1]; exact Int32.not_le.mp c_6) hu.2⟩) hF
      exact L35 (((d.1).toInt - (y_2 + (1 : Int32)).toInt).toNat + 1) (y_2 + (1 : Int32)) d _ _ ls (lv_sub hl [0, 1, 2, 3, 4, 5] rfl) hP hD hS (⟨rfl, upI_i⟩) hF
    · have hF := hF.trans (if_pos c_5)
      refine lv_iconst (v := (1 : Int32)) hx hb dX1_remove_23 (by decide) ?_
      refine lv_goto (tgt := 28) hx hb dX1_remove_24 (by decide) ?_
      refine lv_istore (lv' := [(4, .int (1 : Int32)), (3, .int y_2), (0, .ref dh0), (1, .int dr), (2, .int dy)]) hx hb dX1_remove_28 hl (by decide) rfl (fun ls hl => ?_)
      refine lv_iload_n hx hb dX1_remove_30 rfl (lv_at hl 1 rfl) ?_
      refine lv_iconst (v := (1 : Int32)) hx hb dX1_remove_31 (by decide) ?_
      refine lv_iadd hx hb dX1_remove_32 ?_
      refine lv_istore (lv' := [(5, .int (y_2 + (1 : Int32))), (4, .int (1 : Int32)), (3, .int y_2), (0, .ref dh0), (1, .int dr), (2, .int dy)]) hx hb dX1_remove_33 hl (by decide) rfl (fun ls hl => ?_)
      have L35 : ∀ (n : Nat) (x5 : Int32) (dL : ExV) (H : Heap) (locs : List Loc) (ls : Array Slot), lv_has ls 6 [(5, .int x5), (4, .int (1 : Int32)), (3, .int y_2), (0, .ref dh0), (1, .int dr), (2, .int dy)] → va_P G.1 vwCl (fl [wEx G dh0 dh1 dh2 dh3 dL]) H → va_D A (fl [wEx G dh0 dh1 dh2 dh3 dL]) → va_S A s.heap H locs → (dL.1 = d.1 ∧ upI x5 d.1 n) → f_X1_remove d dr dy = lp_X1_remove_35' d dr dy y_2 n x5 dL → W p l e (rmd 3 0 0) s m ([.ref dh0, .int dr, .int dy] : List Value).toArray below meth c H locs 0 0 (MQ below (wQ (fun u : Int32 × ExV => some (.int u.1)) (fun u : Int32 × ExV => u = f_X1_remove d dr dy ∧ narrow .boolean (.int ((f_X1_remove d dr dy).1)) = .int ((f_X1_remove d dr dy).1)) (fun u : Int32 × ExV => fl [wEx G dh0 dh1 dh2 dh3 u.2]) G.1 A) ([.ref dh0, .int dr, .int dy] : List Value).toArray s 0 0 A) (F0 m 35 ls []) := by
        intro n
        induction n with
        | zero => intro x5 dL H locs ls hl _ _ _ hu; exact absurd hu (fun h => upI_0 h.2)
        | succ n ih =>
          intro x5 dL H locs ls hl hP hD hS hu hF
          have hF : f_X1_remove d dr dy = (if dL.1 ≤ x5 then ((1 : Int32), ((dL.1 - (1 : Int32)), dL.2.1, dL.2.2.1, dL.2.2.2)) else (let u_11 : ExV := (f_X1_move dL x5 (x5 - (1 : Int32))); (lp_X1_remove_35' d dr dy y_2 n (x5 + 1) u_11))) := hF
          refine lv_iload hx hb dX1_remove_35 (lv_at hl 0 rfl) ?_
          refine lv_aload_n hx hb dX1_remove_37 rfl (lv_at hl 3 rfl) ?_
          refine va_get (D := G.1) (ci := 5) (v := .int dL.1) (C := RX1) (T := TX1) (N := 4) hx hb hts uws_X1 hown hK hP 0 rfl rfl 0 (by decide) (hts _ u_964) (fun _ h9 => h9) rfl dX1_remove_38 ?_
          refine lv_icmp_ge (tgt := 60) hx hb dX1_remove_41 (by decide) (fun c_9 => ?_) (fun c_9 => ?_)
          · have hF := hF.trans (if_pos c_9)
            refine lv_aload_n hx hb dX1_remove_60 rfl (lv_at hl 3 rfl) ?_
            refine lv_dup hx hb dX1_remove_61 rfl ?_
            refine va_get (D := G.1) (ci := 5) (v := .int dL.1) (C := RX1) (T := TX1) (N := 4) hx hb hts uws_X1 hown hK hP 0 rfl rfl 0 (by decide) (hts _ u_964) (fun _ h9 => h9) rfl dX1_remove_62 ?_
            refine lv_iconst (v := (1 : Int32)) hx hb dX1_remove_65 (by decide) ?_
            refine lv_isub hx hb dX1_remove_66 ?_
            refine va_put (D := G.1) (ci := 5) (v := .int (dL.1 - (1 : Int32))) (ty := .int) (C := RX1) (T := TX1) (N := 4) hx hb hts uws_X1 tyX1 tyX1_ok nmX1 hown hK hP hD hS 0 rfl rfl 0 (by decide) (hts _ u_964) (fun _ h9 => h9) rfl (by decide +kernel) rfl rfl (Nat.le_of_ble_eq_true rfl) dX1_remove_67 (fun H locs hP hD hS => ?_)
            have hP : va_P G.1 vwCl (fl [wEx G dh0 dh1 dh2 dh3 ((dL.1 - (1 : Int32)), dL.2.1, dL.2.2.1, dL.2.2.2)]) H := hP
            have hD : va_D A (fl [wEx G dh0 dh1 dh2 dh3 ((dL.1 - (1 : Int32)), dL.2.1, dL.2.2.1, dL.2.2.2)]) := hD
            refine lv_iload hx hb dX1_remove_70 (lv_at hl 1 rfl) ?_
            exact w_ret (u := ((1 : Int32), ((dL.1 - (1 : Int32)), dL.2.1, dL.2.2.1, dL.2.2.2))) hx hb hr hlk rfl hS rfl ⟨hF.symm, (by rw [hF]; exact (rfl : narrow .boolean (.int (1 : Int32)) = .int (1 : Int32)))⟩ hP hD (Nat.le_of_ble_eq_true rfl) (Nat.le_of_ble_eq_true rfl) dX1_remove_72
          · have hF := hF.trans (if_neg c_9)
            refine lv_aload_n hx hb dX1_remove_44 rfl (lv_at hl 3 rfl) ?_
            refine lv_iload hx hb dX1_remove_45 (lv_at hl 0 rfl) ?_
            refine lv_iload hx hb dX1_remove_47 (lv_at hl 0 rfl) ?_
            refine lv_iconst (v := (1 : Int32)) hx hb dX1_remove_49 (by decide) ?_
            refine lv_isub hx hb dX1_remove_50 ?_
            refine w_V (own := RX1) (cs := [wEx G dh0 dh1 dh2 dh3 dL]) (rs := []) (As := [.int x5, .int (x5 - (1 : Int32))]) (rest := []) (c_X1_move l G dh0 dh1 dh2 dh3 H.size dL x5 (x5 - (1 : Int32))) ⟨hx, hb, hml, hown, hts⟩ g_X1_39 hdv_X1_move hK hST hS hP hD hA [0] [] rfl rfl rfl (k0 := 0) rfl rfl rfl ⟨Nat.le_of_ble_eq_true rfl, Nat.le_of_ble_eq_true rfl⟩ ⟨Nat.le_of_ble_eq_true rfl, Nat.le_of_ble_eq_true rfl⟩ rfl hl.1 rfl (Nat.le_of_ble_eq_true rfl) dX1_remove_51 (fun u_11 H locs huu hP hD hS => ?_)
            have eu_11 := huu
            have hP : va_P G.1 vwCl (fl [wEx G dh0 dh1 dh2 dh3 u_11]) H := hP
            have hD : va_D A (fl [wEx G dh0 dh1 dh2 dh3 u_11]) := hD
            refine W.eq (g2 := F0 m 54 ls []) rfl ?_
            have hF : f_X1_remove d dr dy = (lp_X1_remove_35' d dr dy y_2 n (x5 + 1) u_11) := by subst eu_11; exact hF
            refine lv_iinc (v := (x5 + 1)) (lv' := [(5, .int (x5 + 1)), (4, .int (1 : Int32)), (3, .int y_2), (0, .ref dh0), (1, .int dr), (2, .int dy)]) hx hb dX1_remove_54 hl (k := 0) rfl rfl (by decide) rfl (fun ls hl => ?_)
            refine lv_goto (tgt := 35) hx hb dX1_remove_57 (by decide) ?_
            exact ih (x5 + 1) u_11 _ _ ls (lv_sub hl [0, 1, 2, 3, 4, 5] rfl) hP hD hS (⟨by subst_vars; exact hu.1, upI_s (by rw [← hu.1]; exact Int32.not_le.mp c_9) hu.2⟩) hF
      exact L35 (((d.1).toInt - (y_2 + (1 : Int32)).toInt).toNat + 1) (y_2 + (1 : Int32)) d _ _ ls (lv_sub hl [0, 1, 2, 3, 4, 5] rfl) hP hD hS (⟨rfl, upI_i⟩) hF
  · have hF := hF.trans (if_pos c_3)
    refine lv_iconst (v := (0 : Int32)) hx hb dX1_remove_12 (by decide) ?_
    exact w_ret (u := ((0 : Int32), d)) hx hb hr hlk rfl hS rfl ⟨hF.symm, (by rw [hF]; exact (rfl : narrow .boolean (.int (0 : Int32)) = .int (0 : Int32)))⟩ hP hD (Nat.le_of_ble_eq_true rfl) (Nat.le_of_ble_eq_true rfl) dX1_remove_13
theorem dX1_copyFrom_0 : decode cX1_copyFrom 0 = .ok (.aload_n 1, 1) := by decide +kernel
theorem dX1_copyFrom_1 : decode cX1_copyFrom 1 = .ok (.ifnonnull 4, 3) := by decide +kernel
theorem dX1_copyFrom_5 : decode cX1_copyFrom 5 = .ok (.aload_n 0, 1) := by decide +kernel
theorem dX1_copyFrom_6 : decode cX1_copyFrom 6 = .ok (.aload_n 1, 1) := by decide +kernel
theorem dX1_copyFrom_7 : decode cX1_copyFrom 7 = .ok (.getfield 9, 3) := by decide +kernel
theorem dX1_copyFrom_10 : decode cX1_copyFrom 10 = .ok (.putfield 9, 3) := by decide +kernel
theorem dX1_copyFrom_13 : decode cX1_copyFrom 13 = .ok (.aload_n 1, 1) := by decide +kernel
theorem dX1_copyFrom_14 : decode cX1_copyFrom 14 = .ok (.getfield 15, 3) := by decide +kernel
theorem dX1_copyFrom_17 : decode cX1_copyFrom 17 = .ok (.aload_n 0, 1) := by decide +kernel
theorem dX1_copyFrom_18 : decode cX1_copyFrom 18 = .ok (.getfield 15, 3) := by decide +kernel
theorem dX1_copyFrom_21 : decode cX1_copyFrom 21 = .ok (.invokestatic 55, 3) := by decide +kernel
theorem u_564 : Cond.methodLink RX1 55 yX7_copy ∈ UW := uw 564 (by decide +kernel) rfl
theorem g_X1_55 : GoodIn UW (va_wsS RX1 55 yX7_copy (wsU yX7_copy cX7_copy 3 none)) := gS u_564 u_558 u_43 u_559
theorem dX1_copyFrom_24 : decode cX1_copyFrom 24 = .ok (.aload_n 1, 1) := by decide +kernel
theorem dX1_copyFrom_25 : decode cX1_copyFrom 25 = .ok (.getfield 19, 3) := by decide +kernel
theorem dX1_copyFrom_28 : decode cX1_copyFrom 28 = .ok (.aload_n 0, 1) := by decide +kernel
theorem dX1_copyFrom_29 : decode cX1_copyFrom 29 = .ok (.getfield 19, 3) := by decide +kernel
theorem dX1_copyFrom_32 : decode cX1_copyFrom 32 = .ok (.invokestatic 55, 3) := by decide +kernel
theorem dX1_copyFrom_35 : decode cX1_copyFrom 35 = .ok (.aload_n 1, 1) := by decide +kernel
theorem dX1_copyFrom_36 : decode cX1_copyFrom 36 = .ok (.getfield 22, 3) := by decide +kernel
theorem dX1_copyFrom_39 : decode cX1_copyFrom 39 = .ok (.aload_n 0, 1) := by decide +kernel
theorem dX1_copyFrom_40 : decode cX1_copyFrom 40 = .ok (.getfield 22, 3) := by decide +kernel
theorem dX1_copyFrom_43 : decode cX1_copyFrom 43 = .ok (.invokestatic 55, 3) := by decide +kernel
theorem dX1_copyFrom_46 : decode cX1_copyFrom 46 = .ok (.return_, 1) := by decide +kernel
def f_X1_copyFrom (d : ExV) (o : ExV) : ExV := (let u_2 : (Nat → Int32) := (f_X7_copy 12 o.2.1 12 d.2.1); (let u_4 : (Nat → Int32) := (f_X7_copy 12 o.2.2.1 12 d.2.2.1); (let u_6 : (Nat → Int32) := (f_X7_copy 12 o.2.2.2 12 d.2.2.2); (o.1, u_2, u_4, u_6))))
set_option maxHeartbeats 4000000 in
set_option maxRecDepth 100000 in
theorem c_X1_copyFrom (l : Launch) (G : GG) (dh0 : Nat) (dh1 : Nat) (dh2 : Nat) (dh3 : Nat) (oh0 : Nat) (oh1 : Nat) (oh2 : Nat) (oh3 : Nat) (sz : Nat) (d : ExV) (o : ExV) : wMet l yX1_copyFrom cX1_copyFrom 2 none 2 0 0 G (fl [wEx G dh0 dh1 dh2 dh3 d, wEx G oh0 oh1 oh2 oh3 o]) [.ref dh0, .ref oh0] sz (fun u : ExV => none) (fun u : ExV => u = f_X1_copyFrom d o) (fun u : ExV => fl [wEx G dh0 dh1 dh2 dh3 u, wEx G oh0 oh1 oh2 oh3 o]) := by
  refine w_start (by decide +kernel) (Nat.le_of_ble_eq_true rfl) ?_
  intro p e s m below meth c A hx hb hr hml hts hown hlk hin hP hD hA hK hST ls hl
  have hS : va_S A s.heap s.heap [] := va_S.rf
  have hown : s.vm.findClass RX1 = some m.cls := hown
  have hl : lv_has ls 2 [(0, .ref dh0), (1, .ref oh0)] := hl
  have hF : f_X1_copyFrom d o = (let u_2 : (Nat → Int32) := (f_X7_copy 12 o.2.1 12 d.2.1); (let u_4 : (Nat → Int32) := (f_X7_copy 12 o.2.2.1 12 d.2.2.1); (let u_6 : (Nat → Int32) := (f_X7_copy 12 o.2.2.2 12 d.2.2.2); (o.1, u_2, u_4, u_6)))) := rfl
  refine lv_aload_n hx hb dX1_copyFrom_0 rfl (lv_at hl 1 rfl) ?_
  refine lv_ifnonnull (tgt := 5) hx hb dX1_copyFrom_1 (by decide) ?_
  refine lv_aload_n hx hb dX1_copyFrom_5 rfl (lv_at hl 0 rfl) ?_
  refine lv_aload_n hx hb dX1_copyFrom_6 rfl (lv_at hl 1 rfl) ?_
  refine va_get (D := G.1) (ci := 5) (v := .int o.1) (C := RX1) (T := TX1) (N := 4) hx hb hts uws_X1 hown hK hP 4 rfl rfl 0 (by decide) (hts _ u_964) (fun _ h9 => h9) rfl dX1_copyFrom_7 ?_
  refine va_put (D := G.1) (ci := 5) (v := .int o.1) (ty := .int) (C := RX1) (T := TX1) (N := 4) hx hb hts uws_X1 tyX1 tyX1_ok nmX1 hown hK hP hD hS 0 rfl rfl 0 (by decide) (hts _ u_964) (fun _ h9 => h9) rfl (by decide +kernel) rfl rfl (Nat.le_of_ble_eq_true rfl) dX1_copyFrom_10 (fun H locs hP hD hS => ?_)
  have hP : va_P G.1 vwCl (fl [wEx G dh0 dh1 dh2 dh3 (o.1, d.2.1, d.2.2.1, d.2.2.2), wEx G oh0 oh1 oh2 oh3 o]) H := hP
  have hD : va_D A (fl [wEx G dh0 dh1 dh2 dh3 (o.1, d.2.1, d.2.2.1, d.2.2.2), wEx G oh0 oh1 oh2 oh3 o]) := hD
  refine lv_aload_n hx hb dX1_copyFrom_13 rfl (lv_at hl 1 rfl) ?_
  refine va_get (D := G.1) (ci := 5) (v := .ref oh1) (C := RX1) (T := TX1) (N := 4) hx hb hts uws_X1 hown hK hP 4 rfl rfl 1 (by decide) (hts _ u_967) (fun _ h9 => h9) rfl dX1_copyFrom_14 ?_
  refine lv_aload_n hx hb dX1_copyFrom_17 rfl (lv_at hl 0 rfl) ?_
  refine va_get (D := G.1) (ci := 5) (v := .ref dh1) (C := RX1) (T := TX1) (N := 4) hx hb hts uws_X1 hown hK hP 0 rfl rfl 1 (by decide) (hts _ u_967) (fun _ h9 => h9) rfl dX1_copyFrom_18 ?_
  have hP : va_P G.1 vwCl (fl [wEx G dh0 dh1 dh2 dh3 (o.1, d.2.1, d.2.2.1, d.2.2.2), [(oh0, .inr (5, [.int o.1, .ref oh1, .ref oh2, .ref oh3]))], [cArr G oh1 12 o.2.1], [cArr G oh2 12 o.2.2.1], [cArr G oh3 12 o.2.2.2]]) H := hP
  have hD : va_D A (fl [wEx G dh0 dh1 dh2 dh3 (o.1, d.2.1, d.2.2.1, d.2.2.2), [(oh0, .inr (5, [.int o.1, .ref oh1, .ref oh2, .ref oh3]))], [cArr G oh1 12 o.2.1], [cArr G oh2 12 o.2.2.1], [cArr G oh3 12 o.2.2.2]]) := hD
  have hP : va_P G.1 vwCl (fl [[(dh0, .inr (5, [.int o.1, .ref dh1, .ref dh2, .ref dh3]))], [cArr G dh1 12 d.2.1], [cArr G dh2 12 d.2.2.1], [cArr G dh3 12 d.2.2.2], [(oh0, .inr (5, [.int o.1, .ref oh1, .ref oh2, .ref oh3]))], [cArr G oh1 12 o.2.1], [cArr G oh2 12 o.2.2.1], [cArr G oh3 12 o.2.2.2]]) H := hP
  have hD : va_D A (fl [[(dh0, .inr (5, [.int o.1, .ref dh1, .ref dh2, .ref dh3]))], [cArr G dh1 12 d.2.1], [cArr G dh2 12 d.2.2.1], [cArr G dh3 12 d.2.2.2], [(oh0, .inr (5, [.int o.1, .ref oh1, .ref oh2, .ref oh3]))], [cArr G oh1 12 o.2.1], [cArr G oh2 12 o.2.2.1], [cArr G oh3 12 o.2.2.2]]) := hD
  refine w_S (own := RX1) (cs := [[cArr G oh1 12 o.2.1], [cArr G dh1 12 d.2.1]]) (rs := [[(dh0, .inr (5, [.int o.1, .ref dh1, .ref dh2, .ref dh3]))], [cArr G dh2 12 d.2.2.1], [cArr G dh3 12 d.2.2.2], [(oh0, .inr (5, [.int o.1, .ref oh1, .ref oh2, .ref oh3]))], [cArr G oh2 12 o.2.2.1], [cArr G oh3 12 o.2.2.2]]) (As := [.ref oh1, .ref dh1]) (rest := []) (c_X7_copy l G oh1 dh1 H.size 12 o.2.1 12 d.2.1 (by decide) (by decide)) ⟨hx, hb, hml, hown, hts⟩ g_X1_55 hds_X7_copy hK hST hS hP hD hA [5, 1] [0, 2, 3, 4, 6, 7] rfl rfl rfl ⟨Nat.le_of_ble_eq_true rfl, Nat.le_of_ble_eq_true rfl⟩ ⟨Nat.le_of_ble_eq_true rfl, Nat.le_of_ble_eq_true rfl⟩ rfl hl.1 rfl (Nat.le_of_ble_eq_true rfl) dX1_copyFrom_21 (fun u_2 H locs huu hP hD hS => ?_)
  have eu_2 := huu
  have hP : va_P G.1 vwCl (fl [[cArr G oh1 12 o.2.1], [cArr G dh1 12 u_2], [(dh0, .inr (5, [.int o.1, .ref dh1, .ref dh2, .ref dh3]))], [cArr G dh2 12 d.2.2.1], [cArr G dh3 12 d.2.2.2], [(oh0, .inr (5, [.int o.1, .ref oh1, .ref oh2, .ref oh3]))], [cArr G oh2 12 o.2.2.1], [cArr G oh3 12 o.2.2.2]]) H := hP
  have hD : va_D A (fl [[cArr G oh1 12 o.2.1], [cArr G dh1 12 u_2], [(dh0, .inr (5, [.int o.1, .ref dh1, .ref dh2, .ref dh3]))], [cArr G dh2 12 d.2.2.1], [cArr G dh3 12 d.2.2.2], [(oh0, .inr (5, [.int o.1, .ref oh1, .ref oh2, .ref oh3]))], [cArr G oh2 12 o.2.2.1], [cArr G oh3 12 o.2.2.2]]) := hD
  refine W.eq (g2 := F0 m 24 ls []) rfl ?_
  have hF : f_X1_copyFrom d o = (let u_4 : (Nat → Int32) := (f_X7_copy 12 o.2.2.1 12 d.2.2.1); (let u_6 : (Nat → Int32) := (f_X7_copy 12 o.2.2.2 12 d.2.2.2); (o.1, u_2, u_4, u_6))) := by subst eu_2; exact hF
  refine lv_aload_n hx hb dX1_copyFrom_24 rfl (lv_at hl 1 rfl) ?_
  refine va_get (D := G.1) (ci := 5) (v := .ref oh2) (C := RX1) (T := TX1) (N := 4) hx hb hts uws_X1 hown hK hP 5 rfl rfl 2 (by decide) (hts _ u_968) (fun _ h9 => h9) rfl dX1_copyFrom_25 ?_
  refine lv_aload_n hx hb dX1_copyFrom_28 rfl (lv_at hl 0 rfl) ?_
  refine va_get (D := G.1) (ci := 5) (v := .ref dh2) (C := RX1) (T := TX1) (N := 4) hx hb hts uws_X1 hown hK hP 2 rfl rfl 2 (by decide) (hts _ u_968) (fun _ h9 => h9) rfl dX1_copyFrom_29 ?_
  refine w_S (own := RX1) (cs := [[cArr G oh2 12 o.2.2.1], [cArr G dh2 12 d.2.2.1]]) (rs := [[cArr G oh1 12 o.2.1], [cArr G dh1 12 u_2], [(dh0, .inr (5, [.int o.1, .ref dh1, .ref dh2, .ref dh3]))], [cArr G dh3 12 d.2.2.2], [(oh0, .inr (5, [.int o.1, .ref oh1, .ref oh2, .ref oh3]))], [cArr G oh3 12 o.2.2.2]]) (As := [.ref oh2, .ref dh2]) (rest := []) (c_X7_copy l G oh2 dh2 H.size 12 o.2.2.1 12 d.2.2.1 (by decide) (by decide)) ⟨hx, hb, hml, hown, hts⟩ g_X1_55 hds_X7_copy hK hST hS hP hD hA [6, 3] [0, 1, 2, 4, 5, 7] rfl rfl rfl ⟨Nat.le_of_ble_eq_true rfl, Nat.le_of_ble_eq_true rfl⟩ ⟨Nat.le_of_ble_eq_true rfl, Nat.le_of_ble_eq_true rfl⟩ rfl hl.1 rfl (Nat.le_of_ble_eq_true rfl) dX1_copyFrom_32 (fun u_4 H locs huu hP hD hS => ?_)
  have eu_4 := huu
  have hP : va_P G.1 vwCl (fl [[cArr G oh2 12 o.2.2.1], [cArr G dh2 12 u_4], [cArr G oh1 12 o.2.1], [cArr G dh1 12 u_2], [(dh0, .inr (5, [.int o.1, .ref dh1, .ref dh2, .ref dh3]))], [cArr G dh3 12 d.2.2.2], [(oh0, .inr (5, [.int o.1, .ref oh1, .ref oh2, .ref oh3]))], [cArr G oh3 12 o.2.2.2]]) H := hP
  have hD : va_D A (fl [[cArr G oh2 12 o.2.2.1], [cArr G dh2 12 u_4], [cArr G oh1 12 o.2.1], [cArr G dh1 12 u_2], [(dh0, .inr (5, [.int o.1, .ref dh1, .ref dh2, .ref dh3]))], [cArr G dh3 12 d.2.2.2], [(oh0, .inr (5, [.int o.1, .ref oh1, .ref oh2, .ref oh3]))], [cArr G oh3 12 o.2.2.2]]) := hD
  refine W.eq (g2 := F0 m 35 ls []) rfl ?_
  have hF : f_X1_copyFrom d o = (let u_6 : (Nat → Int32) := (f_X7_copy 12 o.2.2.2 12 d.2.2.2); (o.1, u_2, u_4, u_6)) := by subst eu_4; exact hF
  refine lv_aload_n hx hb dX1_copyFrom_35 rfl (lv_at hl 1 rfl) ?_
  refine va_get (D := G.1) (ci := 5) (v := .ref oh3) (C := RX1) (T := TX1) (N := 4) hx hb hts uws_X1 hown hK hP 6 rfl rfl 3 (by decide) (hts _ u_969) (fun _ h9 => h9) rfl dX1_copyFrom_36 ?_
  refine lv_aload_n hx hb dX1_copyFrom_39 rfl (lv_at hl 0 rfl) ?_
  refine va_get (D := G.1) (ci := 5) (v := .ref dh3) (C := RX1) (T := TX1) (N := 4) hx hb hts uws_X1 hown hK hP 4 rfl rfl 3 (by decide) (hts _ u_969) (fun _ h9 => h9) rfl dX1_copyFrom_40 ?_
  refine w_S (own := RX1) (cs := [[cArr G oh3 12 o.2.2.2], [cArr G dh3 12 d.2.2.2]]) (rs := [[cArr G oh2 12 o.2.2.1], [cArr G dh2 12 u_4], [cArr G oh1 12 o.2.1], [cArr G dh1 12 u_2], [(dh0, .inr (5, [.int o.1, .ref dh1, .ref dh2, .ref dh3]))], [(oh0, .inr (5, [.int o.1, .ref oh1, .ref oh2, .ref oh3]))]]) (As := [.ref oh3, .ref dh3]) (rest := []) (c_X7_copy l G oh3 dh3 H.size 12 o.2.2.2 12 d.2.2.2 (by decide) (by decide)) ⟨hx, hb, hml, hown, hts⟩ g_X1_55 hds_X7_copy hK hST hS hP hD hA [7, 5] [0, 1, 2, 3, 4, 6] rfl rfl rfl ⟨Nat.le_of_ble_eq_true rfl, Nat.le_of_ble_eq_true rfl⟩ ⟨Nat.le_of_ble_eq_true rfl, Nat.le_of_ble_eq_true rfl⟩ rfl hl.1 rfl (Nat.le_of_ble_eq_true rfl) dX1_copyFrom_43 (fun u_6 H locs huu hP hD hS => ?_)
  have eu_6 := huu
  have hP : va_P G.1 vwCl (fl [[cArr G oh3 12 o.2.2.2], [cArr G dh3 12 u_6], [cArr G oh2 12 o.2.2.1], [cArr G dh2 12 u_4], [cArr G oh1 12 o.2.1], [cArr G dh1 12 u_2], [(dh0, .inr (5, [.int o.1, .ref dh1, .ref dh2, .ref dh3]))], [(oh0, .inr (5, [.int o.1, .ref oh1, .ref oh2, .ref oh3]))]]) H := hP
  have hD : va_D A (fl [[cArr G oh3 12 o.2.2.2], [cArr G dh3 12 u_6], [cArr G oh2 12 o.2.2.1], [cArr G dh2 12 u_4], [cArr G oh1 12 o.2.1], [cArr G dh1 12 u_2], [(dh0, .inr (5, [.int o.1, .ref dh1, .ref dh2, .ref dh3]))], [(oh0, .inr (5, [.int o.1, .ref oh1, .ref oh2, .ref oh3]))]]) := hD
  refine W.eq (g2 := F0 m 46 ls []) rfl ?_
  have hF : f_X1_copyFrom d o = (o.1, u_2, u_4, u_6) := by subst eu_6; exact hF
  have hP := fl_sub (cs := [[(dh0, .inr (5, [.int o.1, .ref dh1, .ref dh2, .ref dh3]))], [cArr G dh1 12 u_2], [cArr G dh2 12 u_4], [cArr G dh3 12 u_6], [(oh0, .inr (5, [.int o.1, .ref oh1, .ref oh2, .ref oh3]))], [cArr G oh1 12 o.2.1], [cArr G oh2 12 o.2.2.1], [cArr G oh3 12 o.2.2.2]]) [6, 5, 3, 1, 7, 4, 2, 0] rfl hP
  have hD := fl_subD (cs := [[(dh0, .inr (5, [.int o.1, .ref dh1, .ref dh2, .ref dh3]))], [cArr G dh1 12 u_2], [cArr G dh2 12 u_4], [cArr G dh3 12 u_6], [(oh0, .inr (5, [.int o.1, .ref oh1, .ref oh2, .ref oh3]))], [cArr G oh1 12 o.2.1], [cArr G oh2 12 o.2.2.1], [cArr G oh3 12 o.2.2.2]]) [6, 5, 3, 1, 7, 4, 2, 0] rfl rfl hD
  exact w_retV (u := (o.1, u_2, u_4, u_6)) hx hb hr hlk hS rfl hF.symm hP hD (Nat.le_of_ble_eq_true rfl) (Nat.le_of_ble_eq_true rfl) dX1_copyFrom_46
