theorem dX0_slotOf_0 : decode cX0_slotOf 0 = .ok (.iload_n 0, 1) := by decide +kernel
theorem dX0_slotOf_1 : decode cX0_slotOf 1 = .ok (.bipush 8, 2) := by decide +kernel
theorem dX0_slotOf_3 : decode cX0_slotOf 3 = .ok (.imul, 1) := by decide +kernel
theorem dX0_slotOf_4 : decode cX0_slotOf 4 = .ok (.iload_n 1, 1) := by decide +kernel
theorem dX0_slotOf_5 : decode cX0_slotOf 5 = .ok (.bipush 8, 2) := by decide +kernel
theorem dX0_slotOf_7 : decode cX0_slotOf 7 = .ok (.invokestatic 34, 3) := by decide +kernel
theorem u_760 : Cond.methodLink RX0 34 yJ9_floorMod_7cf53 ∈ UW := uw 760 (by decide +kernel) rfl
theorem g_X0_34 : GoodIn UW (va_wsS RX0 34 yJ9_floorMod_7cf53 (wsU yJ9_floorMod_7cf53 cJ9_floorMod_7cf53 3 (some .int))) := gS u_760 u_537 u_44 u_538
theorem dX0_slotOf_10 : decode cX0_slotOf 10 = .ok (.iadd, 1) := by decide +kernel
theorem dX0_slotOf_11 : decode cX0_slotOf 11 = .ok (.ireturn, 1) := by decide +kernel
def f_X0_slotOf (i : Int32) (dy : Int32) : Int32 := ((i * (8 : Int32)) + (f_J9_floorMod_7cf53 dy (8 : Int32)))
set_option maxHeartbeats 4000000 in
set_option maxRecDepth 100000 in
theorem c_X0_slotOf (l : Launch) (G : GG)  (i : Int32) (dy : Int32) : rMet l yX0_slotOf cX0_slotOf 2 (some .int) 2 G (fl []) [.int i, .int dy] (some (.int (f_X0_slotOf i dy))) (True) := by
  refine r_start (by decide +kernel) (Nat.le_of_ble_eq_true rfl) ?_
  intro p e s m below meth c hx hb hr hml hts hown hlk hP hK hST ls hl
  have hS : va_S (fun _ => False) s.heap s.heap [] := va_S.rf
  have hown : s.vm.findClass RX0 = some m.cls := hown
  have hl : lv_has ls 2 [(0, .int i), (1, .int dy)] := hl
  have hF : f_X0_slotOf i dy = ((i * (8 : Int32)) + (f_J9_floorMod_7cf53 dy (8 : Int32))) := rfl
  refine lv_iload_n hx hb dX0_slotOf_0 rfl (lv_at hl 0 rfl) ?_
  refine lv_bipush (v := (8 : Int32)) hx hb dX0_slotOf_1 (by decide) ?_
  refine lv_imul hx hb dX0_slotOf_3 ?_
  refine lv_iload_n hx hb dX0_slotOf_4 rfl (lv_at hl 1 rfl) ?_
  refine lv_bipush (v := (8 : Int32)) hx hb dX0_slotOf_5 (by decide) ?_
  refine r_S (own := RX0) (v := (some (.int (f_J9_floorMod_7cf53 dy (8 : Int32))))) (st1 := [.int (f_J9_floorMod_7cf53 dy (8 : Int32)), .int (i * (8 : Int32))]) (As := [.int dy, .int (8 : Int32)]) (rest := [.int (i * (8 : Int32))]) (c_J9_floorMod_7cf53 l G dy (8 : Int32) (by decide)) ⟨hx, hb, hml, hown, hts⟩ g_X0_34 hds_J9_floorMod_7cf53 hK hST hS hP [] rfl ⟨Nat.le_of_ble_eq_true rfl, Nat.le_of_ble_eq_true rfl⟩ ⟨Nat.le_of_ble_eq_true rfl, Nat.le_of_ble_eq_true rfl⟩ rfl hl.1 rfl (Nat.le_of_ble_eq_true rfl) dX0_slotOf_7 rfl (fun b_1 => ?_)
  refine lv_iadd hx hb dX0_slotOf_10 ?_
  exact r_ret hx hb hr hlk rfl (by rw [hF]) trivial dX0_slotOf_11
theorem dX0_placeOf_0 : decode cX0_placeOf 0 = .ok (.aload_n 0, 1) := by decide +kernel
theorem dX0_placeOf_1 : decode cX0_placeOf 1 = .ok (.getfield 9, 3) := by decide +kernel
theorem uws_X0 : ∀ w ∈ wsX00, w ∈ UW := uw_all [1009, 1011, 1013, 1015, 1017, 1019, 1021] (by decide +kernel) (by decide +kernel)
theorem u_1001 : Cond.fieldLink RX0 9 "MoonlitDoors$Audits" "attempts" "I" ∈ UW := uw 1001 (by decide +kernel) rfl
theorem dX0_placeOf_4 : decode cX0_placeOf 4 = .ok (.iconst 1, 1) := by decide +kernel
theorem dX0_placeOf_5 : decode cX0_placeOf 5 = .ok (.isub, 1) := by decide +kernel
theorem dX0_placeOf_6 : decode cX0_placeOf 6 = .ok (.iload_n 1, 1) := by decide +kernel
theorem dX0_placeOf_7 : decode cX0_placeOf 7 = .ok (.isub, 1) := by decide +kernel
theorem dX0_placeOf_8 : decode cX0_placeOf 8 = .ok (.bipush 10, 2) := by decide +kernel
theorem dX0_placeOf_10 : decode cX0_placeOf 10 = .ok (.invokestatic 34, 3) := by decide +kernel
theorem dX0_placeOf_13 : decode cX0_placeOf 13 = .ok (.ireturn, 1) := by decide +kernel
def f_X0_placeOf (d : AuV) (i : Int32) : Int32 := (f_J9_floorMod_7cf53 ((d.1 - (1 : Int32)) - i) (10 : Int32))
set_option maxHeartbeats 4000000 in
set_option maxRecDepth 100000 in
theorem c_X0_placeOf (l : Launch) (G : GG) (dh0 : Nat) (dh1 : Nat) (dh2 : Nat) (dh3 : Nat) (dh4 : Nat) (dh5 : Nat) (dh6 : Nat) (d : AuV) (i : Int32) : rMet l yX0_placeOf cX0_placeOf 2 (some .int) 2 G (fl [wAu G dh0 dh1 dh2 dh3 dh4 dh5 dh6 d]) [.ref dh0, .int i] (some (.int (f_X0_placeOf d i))) (True) := by
  refine r_start (by decide +kernel) (Nat.le_of_ble_eq_true rfl) ?_
  intro p e s m below meth c hx hb hr hml hts hown hlk hP hK hST ls hl
  have hS : va_S (fun _ => False) s.heap s.heap [] := va_S.rf
  have hown : s.vm.findClass RX0 = some m.cls := hown
  have hl : lv_has ls 2 [(0, .ref dh0), (1, .int i)] := hl
  have hF : f_X0_placeOf d i = (f_J9_floorMod_7cf53 ((d.1 - (1 : Int32)) - i) (10 : Int32)) := rfl
  refine lv_aload_n hx hb dX0_placeOf_0 rfl (lv_at hl 0 rfl) ?_
  refine va_get (D := G.1) (ci := 4) (v := .int d.1) (C := RX0) (T := TX0) (N := 7) hx hb hts uws_X0 hown hK hP 0 rfl rfl 0 (by decide) (hts _ u_1001) (fun _ h9 => h9) rfl dX0_placeOf_1 ?_
  refine lv_iconst (v := (1 : Int32)) hx hb dX0_placeOf_4 (by decide) ?_
  refine lv_isub hx hb dX0_placeOf_5 ?_
  refine lv_iload_n hx hb dX0_placeOf_6 rfl (lv_at hl 1 rfl) ?_
  refine lv_isub hx hb dX0_placeOf_7 ?_
  refine lv_bipush (v := (10 : Int32)) hx hb dX0_placeOf_8 (by decide) ?_
  refine r_S (own := RX0) (v := (some (.int (f_J9_floorMod_7cf53 ((d.1 - (1 : Int32)) - i) (10 : Int32))))) (st1 := [.int (f_J9_floorMod_7cf53 ((d.1 - (1 : Int32)) - i) (10 : Int32))]) (As := [.int ((d.1 - (1 : Int32)) - i), .int (10 : Int32)]) (rest := []) (c_J9_floorMod_7cf53 l G ((d.1 - (1 : Int32)) - i) (10 : Int32) (by decide)) ⟨hx, hb, hml, hown, hts⟩ g_X0_34 hds_J9_floorMod_7cf53 hK hST hS hP [] rfl ⟨Nat.le_of_ble_eq_true rfl, Nat.le_of_ble_eq_true rfl⟩ ⟨Nat.le_of_ble_eq_true rfl, Nat.le_of_ble_eq_true rfl⟩ rfl hl.1 rfl (Nat.le_of_ble_eq_true rfl) dX0_placeOf_10 rfl (fun b_1 => ?_)
  exact r_ret hx hb hr hlk rfl (by rw [hF]) trivial dX0_placeOf_13
theorem dX0_record_0 : decode cX0_record 0 = .ok (.aload_n 0, 1) := by decide +kernel
theorem dX0_record_1 : decode cX0_record 1 = .ok (.getfield 9, 3) := by decide +kernel
theorem dX0_record_4 : decode cX0_record 4 = .ok (.bipush 10, 2) := by decide +kernel
theorem dX0_record_6 : decode cX0_record 6 = .ok (.invokestatic 34, 3) := by decide +kernel
theorem dX0_record_9 : decode cX0_record 9 = .ok (.istore 5, 2) := by decide +kernel
theorem dX0_record_11 : decode cX0_record 11 = .ok (.aload_n 0, 1) := by decide +kernel
theorem dX0_record_12 : decode cX0_record 12 = .ok (.getfield 25, 3) := by decide +kernel
theorem u_1006 : Cond.fieldLink RX0 25 "MoonlitDoors$Audits" "persons" "[I" ∈ UW := uw 1006 (by decide +kernel) rfl
theorem dX0_record_15 : decode cX0_record 15 = .ok (.iload 5, 2) := by decide +kernel
theorem dX0_record_17 : decode cX0_record 17 = .ok (.iload_n 1, 1) := by decide +kernel
theorem dX0_record_18 : decode cX0_record 18 = .ok (.invokestatic 40, 3) := by decide +kernel
theorem u_761 : Cond.methodLink RX0 40 yX7_put ∈ UW := uw 761 (by decide +kernel) rfl
theorem g_X0_40 : GoodIn UW (va_wsS RX0 40 yX7_put (wsU yX7_put cX7_put 3 none)) := gS u_761 u_702 u_43 u_703
theorem dX0_record_21 : decode cX0_record 21 = .ok (.aload_n 0, 1) := by decide +kernel
theorem dX0_record_22 : decode cX0_record 22 = .ok (.getfield 28, 3) := by decide +kernel
theorem u_1007 : Cond.fieldLink RX0 28 "MoonlitDoors$Audits" "doors" "[I" ∈ UW := uw 1007 (by decide +kernel) rfl
theorem dX0_record_25 : decode cX0_record 25 = .ok (.iload 5, 2) := by decide +kernel
theorem dX0_record_27 : decode cX0_record 27 = .ok (.iload_n 2, 1) := by decide +kernel
theorem dX0_record_28 : decode cX0_record 28 = .ok (.invokestatic 40, 3) := by decide +kernel
theorem dX0_record_31 : decode cX0_record 31 = .ok (.aload_n 0, 1) := by decide +kernel
theorem dX0_record_32 : decode cX0_record 32 = .ok (.getfield 31, 3) := by decide +kernel
theorem u_1008 : Cond.fieldLink RX0 31 "MoonlitDoors$Audits" "results" "[I" ∈ UW := uw 1008 (by decide +kernel) rfl
theorem dX0_record_35 : decode cX0_record 35 = .ok (.iload 5, 2) := by decide +kernel
theorem dX0_record_37 : decode cX0_record 37 = .ok (.iload 4, 2) := by decide +kernel
theorem dX0_record_39 : decode cX0_record 39 = .ok (.invokestatic 40, 3) := by decide +kernel
theorem dX0_record_42 : decode cX0_record 42 = .ok (.aload_n 0, 1) := by decide +kernel
theorem dX0_record_43 : decode cX0_record 43 = .ok (.dup, 1) := by decide +kernel
theorem dX0_record_44 : decode cX0_record 44 = .ok (.getfield 9, 3) := by decide +kernel
theorem dX0_record_47 : decode cX0_record 47 = .ok (.iconst 1, 1) := by decide +kernel
theorem dX0_record_48 : decode cX0_record 48 = .ok (.iadd, 1) := by decide +kernel
theorem dX0_record_49 : decode cX0_record 49 = .ok (.putfield 9, 3) := by decide +kernel
theorem dX0_record_52 : decode cX0_record 52 = .ok (.aload_n 0, 1) := by decide +kernel
theorem dX0_record_53 : decode cX0_record 53 = .ok (.getfield 22, 3) := by decide +kernel
theorem u_1005 : Cond.fieldLink RX0 22 "MoonlitDoors$Audits" "resultCounts" "[I" ∈ UW := uw 1005 (by decide +kernel) rfl
theorem dX0_record_56 : decode cX0_record 56 = .ok (.iload 4, 2) := by decide +kernel
theorem dX0_record_58 : decode cX0_record 58 = .ok (.invokestatic 46, 3) := by decide +kernel
theorem u_762 : Cond.methodLink RX0 46 yX7_increase ∈ UW := uw 762 (by decide +kernel) rfl
theorem g_X0_46 : GoodIn UW (va_wsS RX0 46 yX7_increase (wsU yX7_increase cX7_increase 2 none)) := gS u_762 u_763 u_43 u_764
theorem dX0_record_61 : decode cX0_record 61 = .ok (.iload 4, 2) := by decide +kernel
theorem dX0_record_63 : decode cX0_record 63 = .ok (.ifCond .ne 10, 3) := by decide +kernel
theorem dX0_record_73 : decode cX0_record 73 = .ok (.aload_n 0, 1) := by decide +kernel
theorem dX0_record_74 : decode cX0_record 74 = .ok (.getfield 19, 3) := by decide +kernel
theorem u_1004 : Cond.fieldLink RX0 19 "MoonlitDoors$Audits" "refusalCounts" "[I" ∈ UW := uw 1004 (by decide +kernel) rfl
theorem dX0_record_77 : decode cX0_record 77 = .ok (.iload_n 2, 1) := by decide +kernel
theorem dX0_record_78 : decode cX0_record 78 = .ok (.iload_n 3, 1) := by decide +kernel
theorem dX0_record_79 : decode cX0_record 79 = .ok (.invokestatic 50, 3) := by decide +kernel
theorem u_767 : Cond.methodLink RX0 50 yX0_slotOf ∈ UW := uw 767 (by decide +kernel) rfl
theorem u_768 : Cond.static yX0_slotOf ∈ UW := uw 768 (by decide +kernel) rfl
theorem u_26 : Cond.initialized RX0 ∈ UW := uw 26 (by decide +kernel) rfl
theorem u_769 : Cond.code yX0_slotOf cX0_slotOf 2 (some .int) ∈ UW := uw 769 (by decide +kernel) rfl
theorem g_X0_50 : GoodIn UW (va_wsS RX0 50 yX0_slotOf (wsU yX0_slotOf cX0_slotOf 2 (some .int))) := gS u_767 u_768 u_26 u_769
theorem hds_X0_slotOf : yX0_slotOf.cls ≠ "java/lang/invoke/MethodHandle" ∧ yX0_slotOf.cls ≠ "java/lang/invoke/VarHandle" ∧ (parseMethodDescriptor yX0_slotOf.desc).map (fun d => d.parameters.length) = some 2 := by decide +kernel
theorem dX0_record_82 : decode cX0_record 82 = .ok (.invokestatic 46, 3) := by decide +kernel
theorem dX0_record_85 : decode cX0_record 85 = .ok (.return_, 1) := by decide +kernel
theorem dX0_record_66 : decode cX0_record 66 = .ok (.aload_n 0, 1) := by decide +kernel
theorem dX0_record_67 : decode cX0_record 67 = .ok (.getfield 15, 3) := by decide +kernel
theorem u_1003 : Cond.fieldLink RX0 15 "MoonlitDoors$Audits" "entryCounts" "[I" ∈ UW := uw 1003 (by decide +kernel) rfl
theorem dX0_record_70 : decode cX0_record 70 = .ok (.goto 7, 3) := by decide +kernel
def f_X0_record (d : AuV) (ps : Int32) (dr : Int32) (dy : Int32) (rs : Int32) : AuV := (let y_2 : Int32 := (f_J9_floorMod_7cf53 d.1 (10 : Int32)); (let u_4 : (Nat → Int32) := (f_X7_put 10 d.2.2.2.2.1 y_2 ps); (let u_6 : (Nat → Int32) := (f_X7_put 10 d.2.2.2.2.2.1 y_2 dr); (let u_8 : (Nat → Int32) := (f_X7_put 10 d.2.2.2.2.2.2 y_2 rs); (let u_10 : (Nat → Int32) := (f_X7_increase 5 d.2.2.2.1 rs); (if rs = (0 : Int32) then (let u_17 : (Nat → Int32) := (f_X7_increase 64 d.2.1 (f_X0_slotOf dr dy)); ((d.1 + (1 : Int32)), u_17, d.2.2.1, u_10, u_4, u_6, u_8)) else (let u_14 : (Nat → Int32) := (f_X7_increase 64 d.2.2.1 (f_X0_slotOf dr dy)); ((d.1 + (1 : Int32)), d.2.1, u_14, u_10, u_4, u_6, u_8))))))))
set_option maxHeartbeats 4000000 in
set_option maxRecDepth 100000 in
theorem c_X0_record (l : Launch) (G : GG) (dh0 : Nat) (dh1 : Nat) (dh2 : Nat) (dh3 : Nat) (dh4 : Nat) (dh5 : Nat) (dh6 : Nat) (sz : Nat) (d : AuV) (ps : Int32) (dr : Int32) (dy : Int32) (rs : Int32) : wMet l yX0_record cX0_record 6 none 3 0 0 G (fl [wAu G dh0 dh1 dh2 dh3 dh4 dh5 dh6 d]) [.ref dh0, .int ps, .int dr, .int dy, .int rs] sz (fun u : AuV => none) (fun u : AuV => u = f_X0_record d ps dr dy rs) (fun u : AuV => fl [wAu G dh0 dh1 dh2 dh3 dh4 dh5 dh6 u]) := by
  refine w_start (by decide +kernel) (Nat.le_of_ble_eq_true rfl) ?_
  intro p e s m below meth c A hx hb hr hml hts hown hlk hin hP hD hA hK hST ls hl
  have hS : va_S A s.heap s.heap [] := va_S.rf
  have hown : s.vm.findClass RX0 = some m.cls := hown
  have hl : lv_has ls 6 [(0, .ref dh0), (1, .int ps), (2, .int dr), (3, .int dy), (4, .int rs)] := hl
  have hF : f_X0_record d ps dr dy rs = (let y_2 : Int32 := (f_J9_floorMod_7cf53 d.1 (10 : Int32)); (let u_4 : (Nat → Int32) := (f_X7_put 10 d.2.2.2.2.1 y_2 ps); (let u_6 : (Nat → Int32) := (f_X7_put 10 d.2.2.2.2.2.1 y_2 dr); (let u_8 : (Nat → Int32) := (f_X7_put 10 d.2.2.2.2.2.2 y_2 rs); (let u_10 : (Nat → Int32) := (f_X7_increase 5 d.2.2.2.1 rs); (if rs = (0 : Int32) then (let u_17 : (Nat → Int32) := (f_X7_increase 64 d.2.1 (f_X0_slotOf dr dy)); ((d.1 + (1 : Int32)), u_17, d.2.2.1, u_10, u_4, u_6, u_8)) else (let u_14 : (Nat → Int32) := (f_X7_increase 64 d.2.2.1 (f_X0_slotOf dr dy)); ((d.1 + (1 : Int32)), d.2.1, u_14, u_10, u_4, u_6, u_8)))))))) := rfl
  refine lv_aload_n hx hb dX0_record_0 rfl (lv_at hl 0 rfl) ?_
  refine va_get (D := G.1) (ci := 4) (v := .int d.1) (C := RX0) (T := TX0) (N := 7) hx hb hts uws_X0 hown hK hP 0 rfl rfl 0 (by decide) (hts _ u_1001) (fun _ h9 => h9) rfl dX0_record_1 ?_
  refine lv_bipush (v := (10 : Int32)) hx hb dX0_record_4 (by decide) ?_
  refine r_S (own := RX0) (v := (some (.int (f_J9_floorMod_7cf53 d.1 (10 : Int32))))) (st1 := [.int (f_J9_floorMod_7cf53 d.1 (10 : Int32))]) (As := [.int d.1, .int (10 : Int32)]) (rest := []) (c_J9_floorMod_7cf53 l G d.1 (10 : Int32) (by decide)) ⟨hx, hb, hml, hown, hts⟩ g_X0_34 hds_J9_floorMod_7cf53 hK hST hS hP [] rfl ⟨Nat.le_of_ble_eq_true rfl, Nat.le_of_ble_eq_true rfl⟩ ⟨Nat.le_of_ble_eq_true rfl, Nat.le_of_ble_eq_true rfl⟩ rfl hl.1 rfl (Nat.le_of_ble_eq_true rfl) dX0_record_6 rfl (fun b_1 => ?_)
  refine lv_topi (fun y_2 ey_2 => ?_)
  have hF : f_X0_record d ps dr dy rs = (let u_4 : (Nat → Int32) := (f_X7_put 10 d.2.2.2.2.1 y_2 ps); (let u_6 : (Nat → Int32) := (f_X7_put 10 d.2.2.2.2.2.1 y_2 dr); (let u_8 : (Nat → Int32) := (f_X7_put 10 d.2.2.2.2.2.2 y_2 rs); (let u_10 : (Nat → Int32) := (f_X7_increase 5 d.2.2.2.1 rs); (if rs = (0 : Int32) then (let u_17 : (Nat → Int32) := (f_X7_increase 64 d.2.1 (f_X0_slotOf dr dy)); ((d.1 + (1 : Int32)), u_17, d.2.2.1, u_10, u_4, u_6, u_8)) else (let u_14 : (Nat → Int32) := (f_X7_increase 64 d.2.2.1 (f_X0_slotOf dr dy)); ((d.1 + (1 : Int32)), d.2.1, u_14, u_10, u_4, u_6, u_8))))))) := by subst ey_2; exact hF
  refine lv_istore (lv' := [(5, .int y_2), (0, .ref dh0), (1, .int ps), (2, .int dr), (3, .int dy), (4, .int rs)]) hx hb dX0_record_9 hl (by decide) rfl (fun ls hl => ?_)
  refine lv_aload_n hx hb dX0_record_11 rfl (lv_at hl 1 rfl) ?_
  refine va_get (D := G.1) (ci := 4) (v := .ref dh4) (C := RX0) (T := TX0) (N := 7) hx hb hts uws_X0 hown hK hP 0 rfl rfl 4 (by decide) (hts _ u_1006) (fun _ h9 => h9) rfl dX0_record_12 ?_
  refine lv_iload hx hb dX0_record_15 (lv_at hl 0 rfl) ?_
  refine lv_iload_n hx hb dX0_record_17 rfl (lv_at hl 2 rfl) ?_
  have hP : va_P G.1 vwCl (fl [[(dh0, .inr (4, [.int d.1, .ref dh1, .ref dh2, .ref dh3, .ref dh4, .ref dh5, .ref dh6]))], [cArr G dh1 64 d.2.1], [cArr G dh2 64 d.2.2.1], [cArr G dh3 5 d.2.2.2.1], [cArr G dh4 10 d.2.2.2.2.1], [cArr G dh5 10 d.2.2.2.2.2.1], [cArr G dh6 10 d.2.2.2.2.2.2]]) s.heap := hP
  have hD : va_D A (fl [[(dh0, .inr (4, [.int d.1, .ref dh1, .ref dh2, .ref dh3, .ref dh4, .ref dh5, .ref dh6]))], [cArr G dh1 64 d.2.1], [cArr G dh2 64 d.2.2.1], [cArr G dh3 5 d.2.2.2.1], [cArr G dh4 10 d.2.2.2.2.1], [cArr G dh5 10 d.2.2.2.2.2.1], [cArr G dh6 10 d.2.2.2.2.2.2]]) := hD
  refine w_S (own := RX0) (cs := [[cArr G dh4 10 d.2.2.2.2.1]]) (rs := [[(dh0, .inr (4, [.int d.1, .ref dh1, .ref dh2, .ref dh3, .ref dh4, .ref dh5, .ref dh6]))], [cArr G dh1 64 d.2.1], [cArr G dh2 64 d.2.2.1], [cArr G dh3 5 d.2.2.2.1], [cArr G dh5 10 d.2.2.2.2.2.1], [cArr G dh6 10 d.2.2.2.2.2.2]]) (As := [.ref dh4, .int y_2, .int ps]) (rest := []) (c_X7_put l G dh4 s.heap.size 10 d.2.2.2.2.1 y_2 ps (by decide)) ⟨hx, hb, hml, hown, hts⟩ g_X0_40 hds_X7_put hK hST hS hP hD hA [4] [0, 1, 2, 3, 5, 6] rfl rfl rfl ⟨Nat.le_of_ble_eq_true rfl, Nat.le_of_ble_eq_true rfl⟩ ⟨Nat.le_of_ble_eq_true rfl, Nat.le_of_ble_eq_true rfl⟩ rfl hl.1 rfl (Nat.le_of_ble_eq_true rfl) dX0_record_18 (fun u_4 H locs huu hP hD hS => ?_)
  have eu_4 := huu
  have hP : va_P G.1 vwCl (fl [[cArr G dh4 10 u_4], [(dh0, .inr (4, [.int d.1, .ref dh1, .ref dh2, .ref dh3, .ref dh4, .ref dh5, .ref dh6]))], [cArr G dh1 64 d.2.1], [cArr G dh2 64 d.2.2.1], [cArr G dh3 5 d.2.2.2.1], [cArr G dh5 10 d.2.2.2.2.2.1], [cArr G dh6 10 d.2.2.2.2.2.2]]) H := hP
  have hD : va_D A (fl [[cArr G dh4 10 u_4], [(dh0, .inr (4, [.int d.1, .ref dh1, .ref dh2, .ref dh3, .ref dh4, .ref dh5, .ref dh6]))], [cArr G dh1 64 d.2.1], [cArr G dh2 64 d.2.2.1], [cArr G dh3 5 d.2.2.2.1], [cArr G dh5 10 d.2.2.2.2.2.1], [cArr G dh6 10 d.2.2.2.2.2.2]]) := hD
  refine W.eq (g2 := F0 m 21 ls []) rfl ?_
  have hF : f_X0_record d ps dr dy rs = (let u_6 : (Nat → Int32) := (f_X7_put 10 d.2.2.2.2.2.1 y_2 dr); (let u_8 : (Nat → Int32) := (f_X7_put 10 d.2.2.2.2.2.2 y_2 rs); (let u_10 : (Nat → Int32) := (f_X7_increase 5 d.2.2.2.1 rs); (if rs = (0 : Int32) then (let u_17 : (Nat → Int32) := (f_X7_increase 64 d.2.1 (f_X0_slotOf dr dy)); ((d.1 + (1 : Int32)), u_17, d.2.2.1, u_10, u_4, u_6, u_8)) else (let u_14 : (Nat → Int32) := (f_X7_increase 64 d.2.2.1 (f_X0_slotOf dr dy)); ((d.1 + (1 : Int32)), d.2.1, u_14, u_10, u_4, u_6, u_8)))))) := by subst eu_4; exact hF
  refine lv_aload_n hx hb dX0_record_21 rfl (lv_at hl 1 rfl) ?_
  refine va_get (D := G.1) (ci := 4) (v := .ref dh5) (C := RX0) (T := TX0) (N := 7) hx hb hts uws_X0 hown hK hP 1 rfl rfl 5 (by decide) (hts _ u_1007) (fun _ h9 => h9) rfl dX0_record_22 ?_
  refine lv_iload hx hb dX0_record_25 (lv_at hl 0 rfl) ?_
  refine lv_iload_n hx hb dX0_record_27 rfl (lv_at hl 3 rfl) ?_
  refine w_S (own := RX0) (cs := [[cArr G dh5 10 d.2.2.2.2.2.1]]) (rs := [[cArr G dh4 10 u_4], [(dh0, .inr (4, [.int d.1, .ref dh1, .ref dh2, .ref dh3, .ref dh4, .ref dh5, .ref dh6]))], [cArr G dh1 64 d.2.1], [cArr G dh2 64 d.2.2.1], [cArr G dh3 5 d.2.2.2.1], [cArr G dh6 10 d.2.2.2.2.2.2]]) (As := [.ref dh5, .int y_2, .int dr]) (rest := []) (c_X7_put l G dh5 H.size 10 d.2.2.2.2.2.1 y_2 dr (by decide)) ⟨hx, hb, hml, hown, hts⟩ g_X0_40 hds_X7_put hK hST hS hP hD hA [5] [0, 1, 2, 3, 4, 6] rfl rfl rfl ⟨Nat.le_of_ble_eq_true rfl, Nat.le_of_ble_eq_true rfl⟩ ⟨Nat.le_of_ble_eq_true rfl, Nat.le_of_ble_eq_true rfl⟩ rfl hl.1 rfl (Nat.le_of_ble_eq_true rfl) dX0_record_28 (fun u_6 H locs huu hP hD hS => ?_)
  have eu_6 := huu
  have hP : va_P G.1 vwCl (fl [[cArr G dh5 10 u_6], [cArr G dh4 10 u_4], [(dh0, .inr (4, [.int d.1, .ref dh1, .ref dh2, .ref dh3, .ref dh4, .ref dh5, .ref dh6]))], [cArr G dh1 64 d.2.1], [cArr G dh2 64 d.2.2.1], [cArr G dh3 5 d.2.2.2.1], [cArr G dh6 10 d.2.2.2.2.2.2]]) H := hP
  have hD : va_D A (fl [[cArr G dh5 10 u_6], [cArr G dh4 10 u_4], [(dh0, .inr (4, [.int d.1, .ref dh1, .ref dh2, .ref dh3, .ref dh4, .ref dh5, .ref dh6]))], [cArr G dh1 64 d.2.1], [cArr G dh2 64 d.2.2.1], [cArr G dh3 5 d.2.2.2.1], [cArr G dh6 10 d.2.2.2.2.2.2]]) := hD
  refine W.eq (g2 := F0 m 31 ls []) rfl ?_
  have hF : f_X0_record d ps dr dy rs = (let u_8 : (Nat → Int32) := (f_X7_put 10 d.2.2.2.2.2.2 y_2 rs); (let u_10 : (Nat → Int32) := (f_X7_increase 5 d.2.2.2.1 rs); (if rs = (0 : Int32) then (let u_17 : (Nat → Int32) := (f_X7_increase 64 d.2.1 (f_X0_slotOf dr dy)); ((d.1 + (1 : Int32)), u_17, d.2.2.1, u_10, u_4, u_6, u_8)) else (let u_14 : (Nat → Int32) := (f_X7_increase 64 d.2.2.1 (f_X0_slotOf dr dy)); ((d.1 + (1 : Int32)), d.2.1, u_14, u_10, u_4, u_6, u_8))))) := by subst eu_6; exact hF
  refine lv_aload_n hx hb dX0_record_31 rfl (lv_at hl 1 rfl) ?_
  refine va_get (D := G.1) (ci := 4) (v := .ref dh6) (C := RX0) (T := TX0) (N := 7) hx hb hts uws_X0 hown hK hP 2 rfl rfl 6 (by decide) (hts _ u_1008) (fun _ h9 => h9) rfl dX0_record_32 ?_
  refine lv_iload hx hb dX0_record_35 (lv_at hl 0 rfl) ?_
  refine lv_iload hx hb dX0_record_37 (lv_at hl 5 rfl) ?_
  refine w_S (own := RX0) (cs := [[cArr G dh6 10 d.2.2.2.2.2.2]]) (rs := [[cArr G dh5 10 u_6], [cArr G dh4 10 u_4], [(dh0, .inr (4, [.int d.1, .ref dh1, .ref dh2, .ref dh3, .ref dh4, .ref dh5, .ref dh6]))], [cArr G dh1 64 d.2.1], [cArr G dh2 64 d.2.2.1], [cArr G dh3 5 d.2.2.2.1]]) (As := [.ref dh6, .int y_2, .int rs]) (rest := []) (c_X7_put l G dh6 H.size 10 d.2.2.2.2.2.2 y_2 rs (by decide)) ⟨hx, hb, hml, hown, hts⟩ g_X0_40 hds_X7_put hK hST hS hP hD hA [6] [0, 1, 2, 3, 4, 5] rfl rfl rfl ⟨Nat.le_of_ble_eq_true rfl, Nat.le_of_ble_eq_true rfl⟩ ⟨Nat.le_of_ble_eq_true rfl, Nat.le_of_ble_eq_true rfl⟩ rfl hl.1 rfl (Nat.le_of_ble_eq_true rfl) dX0_record_39 (fun u_8 H locs huu hP hD hS => ?_)
  have eu_8 := huu
  have hP : va_P G.1 vwCl (fl [[cArr G dh6 10 u_8], [cArr G dh5 10 u_6], [cArr G dh4 10 u_4], [(dh0, .inr (4, [.int d.1, .ref dh1, .ref dh2, .ref dh3, .ref dh4, .ref dh5, .ref dh6]))], [cArr G dh1 64 d.2.1], [cArr G dh2 64 d.2.2.1], [cArr G dh3 5 d.2.2.2.1]]) H := hP
  have hD : va_D A (fl [[cArr G dh6 10 u_8], [cArr G dh5 10 u_6], [cArr G dh4 10 u_4], [(dh0, .inr (4, [.int d.1, .ref dh1, .ref dh2, .ref dh3, .ref dh4, .ref dh5, .ref dh6]))], [cArr G dh1 64 d.2.1], [cArr G dh2 64 d.2.2.1], [cArr G dh3 5 d.2.2.2.1]]) := hD
  refine W.eq (g2 := F0 m 42 ls []) rfl ?_
  have hF : f_X0_record d ps dr dy rs = (let u_10 : (Nat → Int32) := (f_X7_increase 5 d.2.2.2.1 rs); (if rs = (0 : Int32) then (let u_17 : (Nat → Int32) := (f_X7_increase 64 d.2.1 (f_X0_slotOf dr dy)); ((d.1 + (1 : Int32)), u_17, d.2.2.1, u_10, u_4, u_6, u_8)) else (let u_14 : (Nat → Int32) := (f_X7_increase 64 d.2.2.1 (f_X0_slotOf dr dy)); ((d.1 + (1 : Int32)), d.2.1, u_14, u_10, u_4, u_6, u_8)))) := by subst eu_8; exact hF
  refine lv_aload_n hx hb dX0_record_42 rfl (lv_at hl 1 rfl) ?_
  refine lv_dup hx hb dX0_record_43 rfl ?_
  refine va_get (D := G.1) (ci := 4) (v := .int d.1) (C := RX0) (T := TX0) (N := 7) hx hb hts uws_X0 hown hK hP 3 rfl rfl 0 (by decide) (hts _ u_1001) (fun _ h9 => h9) rfl dX0_record_44 ?_
  refine lv_iconst (v := (1 : Int32)) hx hb dX0_record_47 (by decide) ?_
  refine lv_iadd hx hb dX0_record_48 ?_
  refine va_put (D := G.1) (ci := 4) (v := .int (d.1 + (1 : Int32))) (ty := .int) (C := RX0) (T := TX0) (N := 7) hx hb hts uws_X0 tyX0 tyX0_ok nmX0 hown hK hP hD hS 3 rfl rfl 0 (by decide) (hts _ u_1001) (fun _ h9 => h9) rfl (by decide +kernel) rfl rfl (Nat.le_of_ble_eq_true rfl) dX0_record_49 (fun H locs hP hD hS => ?_)
  have hP : va_P G.1 vwCl (fl [[cArr G dh6 10 u_8], [cArr G dh5 10 u_6], [cArr G dh4 10 u_4], [(dh0, .inr (4, [.int (d.1 + (1 : Int32)), .ref dh1, .ref dh2, .ref dh3, .ref dh4, .ref dh5, .ref dh6]))], [cArr G dh1 64 d.2.1], [cArr G dh2 64 d.2.2.1], [cArr G dh3 5 d.2.2.2.1]]) H := hP
  have hD : va_D A (fl [[cArr G dh6 10 u_8], [cArr G dh5 10 u_6], [cArr G dh4 10 u_4], [(dh0, .inr (4, [.int (d.1 + (1 : Int32)), .ref dh1, .ref dh2, .ref dh3, .ref dh4, .ref dh5, .ref dh6]))], [cArr G dh1 64 d.2.1], [cArr G dh2 64 d.2.2.1], [cArr G dh3 5 d.2.2.2.1]]) := hD
  refine lv_aload_n hx hb dX0_record_52 rfl (lv_at hl 1 rfl) ?_
  refine va_get (D := G.1) (ci := 4) (v := .ref dh3) (C := RX0) (T := TX0) (N := 7) hx hb hts uws_X0 hown hK hP 3 rfl rfl 3 (by decide) (hts _ u_1005) (fun _ h9 => h9) rfl dX0_record_53 ?_
  refine lv_iload hx hb dX0_record_56 (lv_at hl 5 rfl) ?_
  refine w_S (own := RX0) (cs := [[cArr G dh3 5 d.2.2.2.1]]) (rs := [[cArr G dh6 10 u_8], [cArr G dh5 10 u_6], [cArr G dh4 10 u_4], [(dh0, .inr (4, [.int (d.1 + (1 : Int32)), .ref dh1, .ref dh2, .ref dh3, .ref dh4, .ref dh5, .ref dh6]))], [cArr G dh1 64 d.2.1], [cArr G dh2 64 d.2.2.1]]) (As := [.ref dh3, .int rs]) (rest := []) (c_X7_increase l G dh3 H.size 5 d.2.2.2.1 rs (by decide)) ⟨hx, hb, hml, hown, hts⟩ g_X0_46 hds_X7_increase hK hST hS hP hD hA [6] [0, 1, 2, 3, 4, 5] rfl rfl rfl ⟨Nat.le_of_ble_eq_true rfl, Nat.le_of_ble_eq_true rfl⟩ ⟨Nat.le_of_ble_eq_true rfl, Nat.le_of_ble_eq_true rfl⟩ rfl hl.1 rfl (Nat.le_of_ble_eq_true rfl) dX0_record_58 (fun u_10 H locs huu hP hD hS => ?_)
  have eu_10 := huu
  have hP : va_P G.1 vwCl (fl [[cArr G dh3 5 u_10], [cArr G dh6 10 u_8], [cArr G dh5 10 u_6], [cArr G dh4 10 u_4], [(dh0, .inr (4, [.int (d.1 + (1 : Int32)), .ref dh1, .ref dh2, .ref dh3, .ref dh4, .ref dh5, .ref dh6]))], [cArr G dh1 64 d.2.1], [cArr G dh2 64 d.2.2.1]]) H := hP
  have hD : va_D A (fl [[cArr G dh3 5 u_10], [cArr G dh6 10 u_8], [cArr G dh5 10 u_6], [cArr G dh4 10 u_4], [(dh0, .inr (4, [.int (d.1 + (1 : Int32)), .ref dh1, .ref dh2, .ref dh3, .ref dh4, .ref dh5, .ref dh6]))], [cArr G dh1 64 d.2.1], [cArr G dh2 64 d.2.2.1]]) := hD
  refine W.eq (g2 := F0 m 61 ls []) rfl ?_
  have hF : f_X0_record d ps dr dy rs = (if rs = (0 : Int32) then (let u_17 : (Nat → Int32) := (f_X7_increase 64 d.2.1 (f_X0_slotOf dr dy)); ((d.1 + (1 : Int32)), u_17, d.2.2.1, u_10, u_4, u_6, u_8)) else (let u_14 : (Nat → Int32) := (f_X7_increase 64 d.2.2.1 (f_X0_slotOf dr dy)); ((d.1 + (1 : Int32)), d.2.1, u_14, u_10, u_4, u_6, u_8))) := by subst eu_10; exact hF
  refine lv_iload hx hb dX0_record_61 (lv_at hl 5 rfl) ?_
  refine lv_if_ne (tgt := 73) hx hb dX0_record_63 (by decide) (fun c_11 => ?_) (fun c_11 => ?_)
  · have hF := hF.trans (if_neg c_11)
    refine lv_aload_n hx hb dX0_record_73 rfl (lv_at hl 1 rfl) ?_
    refine va_get (D := G.1) (ci := 4) (v := .ref dh2) (C := RX0) (T := TX0) (N := 7) hx hb hts uws_X0 hown hK hP 4 rfl rfl 2 (by decide) (hts _ u_1004) (fun _ h9 => h9) rfl dX0_record_74 ?_
    refine lv_iload_n hx hb dX0_record_77 rfl (lv_at hl 3 rfl) ?_
    refine lv_iload_n hx hb dX0_record_78 rfl (lv_at hl 4 rfl) ?_
    refine r_S (own := RX0) (v := (some (.int (f_X0_slotOf dr dy)))) (st1 := [.int (f_X0_slotOf dr dy), .ref dh2]) (As := [.int dr, .int dy]) (rest := [.ref dh2]) (c_X0_slotOf l G dr dy) ⟨hx, hb, hml, hown, hts⟩ g_X0_50 hds_X0_slotOf hK hST hS hP [] rfl ⟨Nat.le_of_ble_eq_true rfl, Nat.le_of_ble_eq_true rfl⟩ ⟨Nat.le_of_ble_eq_true rfl, Nat.le_of_ble_eq_true rfl⟩ rfl hl.1 rfl (Nat.le_of_ble_eq_true rfl) dX0_record_79 rfl (fun b_12 => ?_)
    refine w_S (own := RX0) (cs := [[cArr G dh2 64 d.2.2.1]]) (rs := [[cArr G dh3 5 u_10], [cArr G dh6 10 u_8], [cArr G dh5 10 u_6], [cArr G dh4 10 u_4], [(dh0, .inr (4, [.int (d.1 + (1 : Int32)), .ref dh1, .ref dh2, .ref dh3, .ref dh4, .ref dh5, .ref dh6]))], [cArr G dh1 64 d.2.1]]) (As := [.ref dh2, .int (f_X0_slotOf dr dy)]) (rest := []) (c_X7_increase l G dh2 H.size 64 d.2.2.1 (f_X0_slotOf dr dy) (by decide)) ⟨hx, hb, hml, hown, hts⟩ g_X0_46 hds_X7_increase hK hST hS hP hD hA [6] [0, 1, 2, 3, 4, 5] rfl rfl rfl ⟨Nat.le_of_ble_eq_true rfl, Nat.le_of_ble_eq_true rfl⟩ ⟨Nat.le_of_ble_eq_true rfl, Nat.le_of_ble_eq_true rfl⟩ rfl hl.1 rfl (Nat.le_of_ble_eq_true rfl) dX0_record_82 (fun u_14 H locs huu hP hD hS => ?_)
    have eu_14 := huu
    have hP : va_P G.1 vwCl (fl [[cArr G dh2 64 u_14], [cArr G dh3 5 u_10], [cArr G dh6 10 u_8], [cArr G dh5 10 u_6], [cArr G dh4 10 u_4], [(dh0, .inr (4, [.int (d.1 + (1 : Int32)), .ref dh1, .ref dh2, .ref dh3, .ref dh4, .ref dh5, .ref dh6]))], [cArr G dh1 64 d.2.1]]) H := hP
    have hD : va_D A (fl [[cArr G dh2 64 u_14], [cArr G dh3 5 u_10], [cArr G dh6 10 u_8], [cArr G dh5 10 u_6], [cArr G dh4 10 u_4], [(dh0, .inr (4, [.int (d.1 + (1 : Int32)), .ref dh1, .ref dh2, .ref dh3, .ref dh4, .ref dh5, .ref dh6]))], [cArr G dh1 64 d.2.1]]) := hD
    refine W.eq (g2 := F0 m 85 ls []) rfl ?_
    have hF : f_X0_record d ps dr dy rs = ((d.1 + (1 : Int32)), d.2.1, u_14, u_10, u_4, u_6, u_8) := by subst eu_14; exact hF
    have hP := fl_sub (cs := [[(dh0, .inr (4, [.int (d.1 + (1 : Int32)), .ref dh1, .ref dh2, .ref dh3, .ref dh4, .ref dh5, .ref dh6]))], [cArr G dh1 64 d.2.1], [cArr G dh2 64 u_14], [cArr G dh3 5 u_10], [cArr G dh4 10 u_4], [cArr G dh5 10 u_6], [cArr G dh6 10 u_8]]) [5, 6, 0, 1, 4, 3, 2] rfl hP
    have hD := fl_subD (cs := [[(dh0, .inr (4, [.int (d.1 + (1 : Int32)), .ref dh1, .ref dh2, .ref dh3, .ref dh4, .ref dh5, .ref dh6]))], [cArr G dh1 64 d.2.1], [cArr G dh2 64 u_14], [cArr G dh3 5 u_10], [cArr G dh4 10 u_4], [cArr G dh5 10 u_6], [cArr G dh6 10 u_8]]) [5, 6, 0, 1, 4, 3, 2] rfl rfl hD
    exact w_retV (u := ((d.1 + (1 : Int32)), d.2.1, u_14, u_10, u_4, u_6, u_8)) hx hb hr hlk hS rfl hF.symm hP hD (Nat.le_of_ble_eq_true rfl) (Nat.le_of_ble_eq_true rfl) dX0_record_85
  · have hF := hF.trans (if_pos c_11)
    refine lv_aload_n hx hb dX0_record_66 rfl (lv_at hl 1 rfl) ?_
    refine va_get (D := G.1) (ci := 4) (v := .ref dh1) (C := RX0) (T := TX0) (N := 7) hx hb hts uws_X0 hown hK hP 4 rfl rfl 1 (by decide) (hts _ u_1003) (fun _ h9 => h9) rfl dX0_record_67 ?_
    refine lv_goto (tgt := 77) hx hb dX0_record_70 (by decide) ?_
    refine lv_iload_n hx hb dX0_record_77 rfl (lv_at hl 3 rfl) ?_
    refine lv_iload_n hx hb dX0_record_78 rfl (lv_at hl 4 rfl) ?_
    refine r_S (own := RX0) (v := (some (.int (f_X0_slotOf dr dy)))) (st1 := [.int (f_X0_slotOf dr dy), .ref dh1]) (As := [.int dr, .int dy]) (rest := [.ref dh1]) (c_X0_slotOf l G dr dy) ⟨hx, hb, hml, hown, hts⟩ g_X0_50 hds_X0_slotOf hK hST hS hP [] rfl ⟨Nat.le_of_ble_eq_true rfl, Nat.le_of_ble_eq_true rfl⟩ ⟨Nat.le_of_ble_eq_true rfl, Nat.le_of_ble_eq_true rfl⟩ rfl hl.1 rfl (Nat.le_of_ble_eq_true rfl) dX0_record_79 rfl (fun b_15 => ?_)
    refine w_S (own := RX0) (cs := [[cArr G dh1 64 d.2.1]]) (rs := [[cArr G dh3 5 u_10], [cArr G dh6 10 u_8], [cArr G dh5 10 u_6], [cArr G dh4 10 u_4], [(dh0, .inr (4, [.int (d.1 + (1 : Int32)), .ref dh1, .ref dh2, .ref dh3, .ref dh4, .ref dh5, .ref dh6]))], [cArr G dh2 64 d.2.2.1]]) (As := [.ref dh1, .int (f_X0_slotOf dr dy)]) (rest := []) (c_X7_increase l G dh1 H.size 64 d.2.1 (f_X0_slotOf dr dy) (by decide)) ⟨hx, hb, hml, hown, hts⟩ g_X0_46 hds_X7_increase hK hST hS hP hD hA [5] [0, 1, 2, 3, 4, 6] rfl rfl rfl ⟨Nat.le_of_ble_eq_true rfl, Nat.le_of_ble_eq_true rfl⟩ ⟨Nat.le_of_ble_eq_true rfl, Nat.le_of_ble_eq_true rfl⟩ rfl hl.1 rfl (Nat.le_of_ble_eq_true rfl) dX0_record_82 (fun u_17 H locs huu hP hD hS => ?_)
    have eu_17 := huu
    have hP : va_P G.1 vwCl (fl [[cArr G dh1 64 u_17], [cArr G dh3 5 u_10], [cArr G dh6 10 u_8], [cArr G dh5 10 u_6], [cArr G dh4 10 u_4], [(dh0, .inr (4, [.int (d.1 + (1 : Int32)), .ref dh1, .ref dh2, .ref dh3, .ref dh4, .ref dh5, .ref dh6]))], [cArr G dh2 64 d.2.2.1]]) H := hP
    have hD : va_D A (fl [[cArr G dh1 64 u_17], [cArr G dh3 5 u_10], [cArr G dh6 10 u_8], [cArr G dh5 10 u_6], [cArr G dh4 10 u_4], [(dh0, .inr (4, [.int (d.1 + (1 : Int32)), .ref dh1, .ref dh2, .ref dh3, .ref dh4, .ref dh5, .ref dh6]))], [cArr G dh2 64 d.2.2.1]]) := hD
    refine W.eq (g2 := F0 m 85 ls []) rfl ?_
    have hF : f_X0_record d ps dr dy rs = ((d.1 + (1 : Int32)), u_17, d.2.2.1, u_10, u_4, u_6, u_8) := by subst eu_17; exact hF
    have hP := fl_sub (cs := [[(dh0, .inr (4, [.int (d.1 + (1 : Int32)), .ref dh1, .ref dh2, .ref dh3, .ref dh4, .ref dh5, .ref dh6]))], [cArr G dh1 64 u_17], [cArr G dh2 64 d.2.2.1], [cArr G dh3 5 u_10], [cArr G dh4 10 u_4], [cArr G dh5 10 u_6], [cArr G dh6 10 u_8]]) [5, 0, 6, 1, 4, 3, 2] rfl hP
    have hD := fl_subD (cs := [[(dh0, .inr (4, [.int (d.1 + (1 : Int32)), .ref dh1, .ref dh2, .ref dh3, .ref dh4, .ref dh5, .ref dh6]))], [cArr G dh1 64 u_17], [cArr G dh2 64 d.2.2.1], [cArr G dh3 5 u_10], [cArr G dh4 10 u_4], [cArr G dh5 10 u_6], [cArr G dh6 10 u_8]]) [5, 0, 6, 1, 4, 3, 2] rfl rfl hD
    exact w_retV (u := ((d.1 + (1 : Int32)), u_17, d.2.2.1, u_10, u_4, u_6, u_8)) hx hb hr hlk hS rfl hF.symm hP hD (Nat.le_of_ble_eq_true rfl) (Nat.le_of_ble_eq_true rfl) dX0_record_85
theorem dX0_beginDays_0 : decode cX0_beginDays 0 = .ok (.iconst 1, 1) := by decide +kernel
theorem dX0_beginDays_1 : decode cX0_beginDays 1 = .ok (.istore_n 3, 1) := by decide +kernel
theorem dX0_beginDays_2 : decode cX0_beginDays 2 = .ok (.iload_n 3, 1) := by decide +kernel
theorem dX0_beginDays_3 : decode cX0_beginDays 3 = .ok (.bipush 8, 2) := by decide +kernel
theorem dX0_beginDays_5 : decode cX0_beginDays 5 = .ok (.if_icmp .gt 64, 3) := by decide +kernel
theorem dX0_beginDays_69 : decode cX0_beginDays 69 = .ok (.return_, 1) := by decide +kernel
theorem dX0_beginDays_8 : decode cX0_beginDays 8 = .ok (.iload_n 3, 1) := by decide +kernel
theorem dX0_beginDays_9 : decode cX0_beginDays 9 = .ok (.iload_n 2, 1) := by decide +kernel
theorem dX0_beginDays_10 : decode cX0_beginDays 10 = .ok (.iload_n 1, 1) := by decide +kernel
theorem dX0_beginDays_11 : decode cX0_beginDays 11 = .ok (.isub, 1) := by decide +kernel
theorem dX0_beginDays_12 : decode cX0_beginDays 12 = .ok (.if_icmp .gt 57, 3) := by decide +kernel
theorem dX0_beginDays_15 : decode cX0_beginDays 15 = .ok (.iconst 0, 1) := by decide +kernel
theorem dX0_beginDays_16 : decode cX0_beginDays 16 = .ok (.istore 4, 2) := by decide +kernel
theorem dX0_beginDays_18 : decode cX0_beginDays 18 = .ok (.iload 4, 2) := by decide +kernel
theorem dX0_beginDays_20 : decode cX0_beginDays 20 = .ok (.bipush 8, 2) := by decide +kernel
theorem dX0_beginDays_22 : decode cX0_beginDays 22 = .ok (.if_icmp .ge 41, 3) := by decide +kernel
theorem dX0_beginDays_25 : decode cX0_beginDays 25 = .ok (.aload_n 0, 1) := by decide +kernel
theorem dX0_beginDays_26 : decode cX0_beginDays 26 = .ok (.getfield 15, 3) := by decide +kernel
theorem dX0_beginDays_29 : decode cX0_beginDays 29 = .ok (.iload 4, 2) := by decide +kernel
theorem dX0_beginDays_31 : decode cX0_beginDays 31 = .ok (.iload_n 1, 1) := by decide +kernel
theorem dX0_beginDays_32 : decode cX0_beginDays 32 = .ok (.iload_n 3, 1) := by decide +kernel
theorem dX0_beginDays_33 : decode cX0_beginDays 33 = .ok (.iadd, 1) := by decide +kernel
theorem dX0_beginDays_34 : decode cX0_beginDays 34 = .ok (.invokestatic 50, 3) := by decide +kernel
theorem dX0_beginDays_37 : decode cX0_beginDays 37 = .ok (.iconst 0, 1) := by decide +kernel
theorem dX0_beginDays_38 : decode cX0_beginDays 38 = .ok (.invokestatic 40, 3) := by decide +kernel
theorem dX0_beginDays_41 : decode cX0_beginDays 41 = .ok (.aload_n 0, 1) := by decide +kernel
theorem dX0_beginDays_42 : decode cX0_beginDays 42 = .ok (.getfield 19, 3) := by decide +kernel
theorem dX0_beginDays_45 : decode cX0_beginDays 45 = .ok (.iload 4, 2) := by decide +kernel
theorem dX0_beginDays_47 : decode cX0_beginDays 47 = .ok (.iload_n 1, 1) := by decide +kernel
theorem dX0_beginDays_48 : decode cX0_beginDays 48 = .ok (.iload_n 3, 1) := by decide +kernel
theorem dX0_beginDays_49 : decode cX0_beginDays 49 = .ok (.iadd, 1) := by decide +kernel
theorem dX0_beginDays_50 : decode cX0_beginDays 50 = .ok (.invokestatic 50, 3) := by decide +kernel
theorem dX0_beginDays_53 : decode cX0_beginDays 53 = .ok (.iconst 0, 1) := by decide +kernel
theorem dX0_beginDays_54 : decode cX0_beginDays 54 = .ok (.invokestatic 40, 3) := by decide +kernel
theorem dX0_beginDays_57 : decode cX0_beginDays 57 = .ok (.iinc 4 1, 3) := by decide +kernel
theorem dX0_beginDays_60 : decode cX0_beginDays 60 = .ok (.goto (-42), 3) := by decide +kernel
theorem dX0_beginDays_63 : decode cX0_beginDays 63 = .ok (.iinc 3 1, 3) := by decide +kernel
theorem dX0_beginDays_66 : decode cX0_beginDays 66 = .ok (.goto (-64), 3) := by decide +kernel
def lp_X0_beginDays_18 (d : AuV) (d0 : Int32) (d1 : Int32) (x3 : Int32) (dL : AuV) : Nat → Int32 → AuV → Int32 × AuV
  | 0, x4, dL' => (x4, dL')
  | n + 1, x4, dL' => (if (8 : Int32) ≤ x4 then (x4, dL') else (let u_6 : (Nat → Int32) := (f_X7_put 64 dL'.2.1 (f_X0_slotOf x4 (d0 + x3)) (0 : Int32)); (let u_9 : (Nat → Int32) := (f_X7_put 64 dL'.2.2.1 (f_X0_slotOf x4 (d0 + x3)) (0 : Int32)); (lp_X0_beginDays_18 d d0 d1 x3 dL n (x4 + 1) (dL'.1, u_6, u_9, dL'.2.2.2.1, dL'.2.2.2.2.1, dL'.2.2.2.2.2.1, dL'.2.2.2.2.2.2)))))
def lp_X0_beginDays_2 (d : AuV) (d0 : Int32) (d1 : Int32) : Nat → Int32 → AuV → AuV
  | 0, _, _ => d
  | n + 1, x3, dL => (if (8 : Int32) < x3 then dL else (if (d1 - d0) < x3 then dL else (let r_10 : Int32 × AuV := (lp_X0_beginDays_18 d d0 d1 x3 dL ((((8 : Int32)).toInt - ((0 : Int32)).toInt).toNat + 1) (0 : Int32) dL); (lp_X0_beginDays_2 d d0 d1 n (x3 + 1) r_10.2))))
def f_X0_beginDays (d : AuV) (d0 : Int32) (d1 : Int32) : AuV := (lp_X0_beginDays_2 d d0 d1 ((((8 : Int32)).toInt - ((1 : Int32)).toInt + 1).toNat + 1) (1 : Int32) d)
set_option maxHeartbeats 4000000 in
set_option maxRecDepth 100000 in
theorem c_X0_beginDays (l : Launch) (G : GG) (dh0 : Nat) (dh1 : Nat) (dh2 : Nat) (dh3 : Nat) (dh4 : Nat) (dh5 : Nat) (dh6 : Nat) (sz : Nat) (d : AuV) (d0 : Int32) (d1 : Int32) : wMet l yX0_beginDays cX0_beginDays 5 none 3 0 0 G (fl [wAu G dh0 dh1 dh2 dh3 dh4 dh5 dh6 d]) [.ref dh0, .int d0, .int d1] sz (fun u : AuV => none) (fun u : AuV => u = f_X0_beginDays d d0 d1) (fun u : AuV => fl [wAu G dh0 dh1 dh2 dh3 dh4 dh5 dh6 u]) := by
  refine w_start (by decide +kernel) (Nat.le_of_ble_eq_true rfl) ?_
  intro p e s m below meth c A hx hb hr hml hts hown hlk hin hP hD hA hK hST ls hl
  have hS : va_S A s.heap s.heap [] := va_S.rf
  have hown : s.vm.findClass RX0 = some m.cls := hown
  have hl : lv_has ls 5 [(0, .ref dh0), (1, .int d0), (2, .int d1)] := hl
  have hF : f_X0_beginDays d d0 d1 = (lp_X0_beginDays_2 d d0 d1 ((((8 : Int32)).toInt - ((1 : Int32)).toInt + 1).toNat + 1) (1 : Int32) d) := rfl
  refine lv_iconst (v := (1 : Int32)) hx hb dX0_beginDays_0 (by decide) ?_
  refine lv_istore_n (lv' := [(3, .int (1 : Int32)), (0, .ref dh0), (1, .int d0), (2, .int d1)]) hx hb dX0_beginDays_1 rfl hl (by decide) rfl (fun ls hl => ?_)
  have L2 : ∀ (n : Nat) (x3 : Int32) (dL : AuV) (H : Heap) (locs : List Loc) (ls : Array Slot), lv_has ls 5 [(3, .int x3), (0, .ref dh0), (1, .int d0), (2, .int d1)] → va_P G.1 vwCl (fl [wAu G dh0 dh1 dh2 dh3 dh4 dh5 dh6 dL]) H → va_D A (fl [wAu G dh0 dh1 dh2 dh3 dh4 dh5 dh6 dL]) → va_S A s.heap H locs → (upE x3 (8 : Int32) n) → f_X0_beginDays d d0 d1 = lp_X0_beginDays_2 d d0 d1 n x3 dL → W p l e (rmd 3 0 0) s m ([.ref dh0, .int d0, .int d1] : List Value).toArray below meth c H locs 0 0 (MQ below (wQ (fun u : AuV => none) (fun u : AuV => u = f_X0_beginDays d d0 d1) (fun u : AuV => fl [wAu G dh0 dh1 dh2 dh3 dh4 dh5 dh6 u]) G.1 A) ([.ref dh0, .int d0, .int d1] : List Value).toArray s 0 0 A) (F0 m 2 ls []) := by
    intro n
    induction n with
    | zero => intro x3 dL H locs ls hl _ _ _ hu; exact absurd hu (upE_0)
    | succ n ih =>
      intro x3 dL H locs ls hl hP hD hS hu hF
      have hF : f_X0_beginDays d d0 d1 = (if (8 : Int32) < x3 then dL else (if (d1 - d0) < x3 then dL else (let r_10 : Int32 × AuV := (lp_X0_beginDays_18 d d0 d1 x3 dL ((((8 : Int32)).toInt - ((0 : Int32)).toInt).toNat + 1) (0 : Int32) dL); (lp_X0_beginDays_2 d d0 d1 n (x3 + 1) r_10.2)))) := hF
      refine lv_iload_n hx hb dX0_beginDays_2 rfl (lv_at hl 0 rfl) ?_
      refine lv_bipush (v := (8 : Int32)) hx hb dX0_beginDays_3 (by decide) ?_
      refine lv_icmp_gt (tgt := 69) hx hb dX0_beginDays_5 (by decide) (fun c_1 => ?_) (fun c_1 => ?_)
      · have hF := hF.trans (if_pos c_1)
        exact w_retV (u := dL) hx hb hr hlk hS rfl hF.symm hP hD (Nat.le_of_ble_eq_true rfl) (Nat.le_of_ble_eq_true rfl) dX0_beginDays_69
      · have hF := hF.trans (if_neg c_1)
        refine lv_iload_n hx hb dX0_beginDays_8 rfl (lv_at hl 0 rfl) ?_
        refine lv_iload_n hx hb dX0_beginDays_9 rfl (lv_at hl 3 rfl) ?_
        refine lv_iload_n hx hb dX0_beginDays_10 rfl (lv_at hl 2 rfl) ?_
        refine lv_isub hx hb dX0_beginDays_11 ?_
        refine lv_icmp_gt (tgt := 69) hx hb dX0_beginDays_12 (by decide) (fun c_2 => ?_) (fun c_2 => ?_)
        · have hF := hF.trans (if_pos c_2)
          exact w_retV (u := dL) hx hb hr hlk hS rfl hF.symm hP hD (Nat.le_of_ble_eq_true rfl) (Nat.le_of_ble_eq_true rfl) dX0_beginDays_69
        · have hF := hF.trans (if_neg c_2)
          refine lv_iconst (v := (0 : Int32)) hx hb dX0_beginDays_15 (by decide) ?_
          refine lv_istore (lv' := [(4, .int (0 : Int32)), (3, .int x3), (0, .ref dh0), (1, .int d0), (2, .int d1)]) hx hb dX0_beginDays_16 hl (by decide) rfl (fun ls hl => ?_)
          have K18 : ∀ (r_10 : Int32 × AuV), r_10 = (lp_X0_beginDays_18 d d0 d1 x3 dL ((((8 : Int32)).toInt - ((0 : Int32)).toInt).toNat + 1) (0 : Int32) dL) → ∀ (H : Heap) (locs : List Loc), ∀ (ls : Array Slot), lv_has ls 5 [(4, .int r_10.1), (3, .int x3), (0, .ref dh0), (1, .int d0), (2, .int d1)] → va_P G.1 vwCl (fl [wAu G dh0 dh1 dh2 dh3 dh4 dh5 dh6 r_10.2]) H → va_D A (fl [wAu G dh0 dh1 dh2 dh3 dh4 dh5 dh6 r_10.2]) → va_S A s.heap H locs → W p l e (rmd 3 0 0) s m ([.ref dh0, .int d0, .int d1] : List Value).toArray below meth c H locs 0 0 (MQ below (wQ (fun u : AuV => none) (fun u : AuV => u = f_X0_beginDays d d0 d1) (fun u : AuV => fl [wAu G dh0 dh1 dh2 dh3 dh4 dh5 dh6 u]) G.1 A) ([.ref dh0, .int d0, .int d1] : List Value).toArray s 0 0 A) (F0 m 63 ls []) := by
            intro r_10 er_10 H locs ls hl hP hD hS
            have hF : f_X0_beginDays d d0 d1 = (lp_X0_beginDays_2 d d0 d1 n (x3 + 1) r_10.2) := by subst er_10; exact hF
            refine lv_iinc (v := (x3 + 1)) (lv' := [(3, .int (x3 + 1)), (4, .int r_10.1), (0, .ref dh0), (1, .int d0), (2, .int d1)]) hx hb dX0_beginDays_63 hl (k := 1) rfl rfl (by decide) rfl (fun ls hl => ?_)
            refine lv_goto (tgt := 2) hx hb dX0_beginDays_66 (by decide) ?_
            exact ih (x3 + 1) r_10.2 _ _ ls (lv_sub hl [0, 2, 3, 4] rfl) hP hD hS (upE_s (Int32.not_lt.mp c_1) (by decide) hu) hF
          have L18 : ∀ (n : Nat) (x4 : Int32) (dL' : AuV) (H : Heap) (locs : List Loc) (ls : Array Slot), lv_has ls 5 [(4, .int x4), (3, .int x3), (0, .ref dh0), (1, .int d0), (2, .int d1)] → va_P G.1 vwCl (fl [wAu G dh0 dh1 dh2 dh3 dh4 dh5 dh6 dL']) H → va_D A (fl [wAu G dh0 dh1 dh2 dh3 dh4 dh5 dh6 dL']) → va_S A s.heap H locs → (upI x4 (8 : Int32) n) → (lp_X0_beginDays_18 d d0 d1 x3 dL ((((8 : Int32)).toInt - ((0 : Int32)).toInt).toNat + 1) (0 : Int32) dL) = lp_X0_beginDays_18 d d0 d1 x3 dL n x4 dL' → W p l e (rmd 3 0 0) s m ([.ref dh0, .int d0, .int d1] : List Value).toArray below meth c H locs 0 0 (MQ below (wQ (fun u : AuV => none) (fun u : AuV => u = f_X0_beginDays d d0 d1) (fun u : AuV => fl [wAu G dh0 dh1 dh2 dh3 dh4 dh5 dh6 u]) G.1 A) ([.ref dh0, .int d0, .int d1] : List Value).toArray s 0 0 A) (F0 m 18 ls []) := by
            intro n
            induction n with
            | zero => intro x4 dL' H locs ls hl _ _ _ hu; exact absurd hu (upI_0)
            | succ n ih =>
              intro x4 dL' H locs ls hl hP hD hS hu hI
              have hI : (lp_X0_beginDays_18 d d0 d1 x3 dL ((((8 : Int32)).toInt - ((0 : Int32)).toInt).toNat + 1) (0 : Int32) dL) = (if (8 : Int32) ≤ x4 then (x4, dL') else (let u_6 : (Nat → Int32) := (f_X7_put 64 dL'.2.1 (f_X0_slotOf x4 (d0 + x3)) (0 : Int32)); (let u_9 : (Nat → Int32) := (f_X7_put 64 dL'.2.2.1 (f_X0_slotOf x4 (d0 + x3)) (0 : Int32)); (lp_X0_beginDays_18 d d0 d1 x3 dL n (x4 + 1) (dL'.1, u_6, u_9, dL'.2.2.2.1, dL'.2.2.2.2.1, dL'.2.2.2.2.2.1, dL'.2.2.2.2.2.2))))) := hI
              refine lv_iload hx hb dX0_beginDays_18 (lv_at hl 0 rfl) ?_
              refine lv_bipush (v := (8 : Int32)) hx hb dX0_beginDays_20 (by decide) ?_
              refine lv_icmp_ge (tgt := 63) hx hb dX0_beginDays_22 (by decide) (fun c_3 => ?_) (fun c_3 => ?_)
              · have hI := hI.trans (if_pos c_3)
                exact K18 _ hI.symm _ _ ls (lv_sub hl [0, 1, 2, 3, 4] rfl) hP hD hS
              · have hI := hI.trans (if_neg c_3)
                refine lv_aload_n hx hb dX0_beginDays_25 rfl (lv_at hl 2 rfl) ?_
                refine va_get (D := G.1) (ci := 4) (v := .ref dh1) (C := RX0) (T := TX0) (N := 7) hx hb hts uws_X0 hown hK hP 0 rfl rfl 1 (by decide) (hts _ u_1003) (fun _ h9 => h9) rfl dX0_beginDays_26 ?_
                refine lv_iload hx hb dX0_beginDays_29 (lv_at hl 0 rfl) ?_
                refine lv_iload_n hx hb dX0_beginDays_31 rfl (lv_at hl 3 rfl) ?_
                refine lv_iload_n hx hb dX0_beginDays_32 rfl (lv_at hl 1 rfl) ?_
                refine lv_iadd hx hb dX0_beginDays_33 ?_
                refine r_S (own := RX0) (v := (some (.int (f_X0_slotOf x4 (d0 + x3))))) (st1 := [.int (f_X0_slotOf x4 (d0 + x3)), .ref dh1]) (As := [.int x4, .int (d0 + x3)]) (rest := [.ref dh1]) (c_X0_slotOf l G x4 (d0 + x3)) ⟨hx, hb, hml, hown, hts⟩ g_X0_50 hds_X0_slotOf hK hST hS hP [] rfl ⟨Nat.le_of_ble_eq_true rfl, Nat.le_of_ble_eq_true rfl⟩ ⟨Nat.le_of_ble_eq_true rfl, Nat.le_of_ble_eq_true rfl⟩ rfl hl.1 rfl (Nat.le_of_ble_eq_true rfl) dX0_beginDays_34 rfl (fun b_4 => ?_)
                refine lv_iconst (v := (0 : Int32)) hx hb dX0_beginDays_37 (by decide) ?_
                have hP : va_P G.1 vwCl (fl [[(dh0, .inr (4, [.int dL'.1, .ref dh1, .ref dh2, .ref dh3, .ref dh4, .ref dh5, .ref dh6]))], [cArr G dh1 64 dL'.2.1], [cArr G dh2 64 dL'.2.2.1], [cArr G dh3 5 dL'.2.2.2.1], [cArr G dh4 10 dL'.2.2.2.2.1], [cArr G dh5 10 dL'.2.2.2.2.2.1], [cArr G dh6 10 dL'.2.2.2.2.2.2]]) H := hP
                have hD : va_D A (fl [[(dh0, .inr (4, [.int dL'.1, .ref dh1, .ref dh2, .ref dh3, .ref dh4, .ref dh5, .ref dh6]))], [cArr G dh1 64 dL'.2.1], [cArr G dh2 64 dL'.2.2.1], [cArr G dh3 5 dL'.2.2.2.1], [cArr G dh4 10 dL'.2.2.2.2.1], [cArr G dh5 10 dL'.2.2.2.2.2.1], [cArr G dh6 10 dL'.2.2.2.2.2.2]]) := hD
                refine w_S (own := RX0) (cs := [[cArr G dh1 64 dL'.2.1]]) (rs := [[(dh0, .inr (4, [.int dL'.1, .ref dh1, .ref dh2, .ref dh3, .ref dh4, .ref dh5, .ref dh6]))], [cArr G dh2 64 dL'.2.2.1], [cArr G dh3 5 dL'.2.2.2.1], [cArr G dh4 10 dL'.2.2.2.2.1], [cArr G dh5 10 dL'.2.2.2.2.2.1], [cArr G dh6 10 dL'.2.2.2.2.2.2]]) (As := [.ref dh1, .int (f_X0_slotOf x4 (d0 + x3)), .int (0 : Int32)]) (rest := []) (c_X7_put l G dh1 H.size 64 dL'.2.1 (f_X0_slotOf x4 (d0 + x3)) (0 : Int32) (by decide)) ⟨hx, hb, hml, hown, hts⟩ g_X0_40 hds_X7_put hK hST hS hP hD hA [1] [0, 2, 3, 4, 5, 6] rfl rfl rfl ⟨Nat.le_of_ble_eq_true rfl, Nat.le_of_ble_eq_true rfl⟩ ⟨Nat.le_of_ble_eq_true rfl, Nat.le_of_ble_eq_true rfl⟩ rfl hl.1 rfl (Nat.le_of_ble_eq_true rfl) dX0_beginDays_38 (fun u_6 H locs huu hP hD hS => ?_)
                have eu_6 := huu
                have hP : va_P G.1 vwCl (fl [[cArr G dh1 64 u_6], [(dh0, .inr (4, [.int dL'.1, .ref dh1, .ref dh2, .ref dh3, .ref dh4, .ref dh5, .ref dh6]))], [cArr G dh2 64 dL'.2.2.1], [cArr G dh3 5 dL'.2.2.2.1], [cArr G dh4 10 dL'.2.2.2.2.1], [cArr G dh5 10 dL'.2.2.2.2.2.1], [cArr G dh6 10 dL'.2.2.2.2.2.2]]) H := hP
                have hD : va_D A (fl [[cArr G dh1 64 u_6], [(dh0, .inr (4, [.int dL'.1, .ref dh1, .ref dh2, .ref dh3, .ref dh4, .ref dh5, .ref dh6]))], [cArr G dh2 64 dL'.2.2.1], [cArr G dh3 5 dL'.2.2.2.1], [cArr G dh4 10 dL'.2.2.2.2.1], [cArr G dh5 10 dL'.2.2.2.2.2.1], [cArr G dh6 10 dL'.2.2.2.2.2.2]]) := hD
                refine W.eq (g2 := F0 m 41 ls []) rfl ?_
                have hI : (lp_X0_beginDays_18 d d0 d1 x3 dL ((((8 : Int32)).toInt - ((0 : Int32)).toInt).toNat + 1) (0 : Int32) dL) = (let u_9 : (Nat → Int32) := (f_X7_put 64 dL'.2.2.1 (f_X0_slotOf x4 (d0 + x3)) (0 : Int32)); (lp_X0_beginDays_18 d d0 d1 x3 dL n (x4 + 1) (dL'.1, u_6, u_9, dL'.2.2.2.1, dL'.2.2.2.2.1, dL'.2.2.2.2.2.1, dL'.2.2.2.2.2.2))) := by subst eu_6; exact hI
                refine lv_aload_n hx hb dX0_beginDays_41 rfl (lv_at hl 2 rfl) ?_
                refine va_get (D := G.1) (ci := 4) (v := .ref dh2) (C := RX0) (T := TX0) (N := 7) hx hb hts uws_X0 hown hK hP 1 rfl rfl 2 (by decide) (hts _ u_1004) (fun _ h9 => h9) rfl dX0_beginDays_42 ?_
                refine lv_iload hx hb dX0_beginDays_45 (lv_at hl 0 rfl) ?_
                refine lv_iload_n hx hb dX0_beginDays_47 rfl (lv_at hl 3 rfl) ?_
                refine lv_iload_n hx hb dX0_beginDays_48 rfl (lv_at hl 1 rfl) ?_
                refine lv_iadd hx hb dX0_beginDays_49 ?_
                refine r_S (own := RX0) (v := (some (.int (f_X0_slotOf x4 (d0 + x3))))) (st1 := [.int (f_X0_slotOf x4 (d0 + x3)), .ref dh2]) (As := [.int x4, .int (d0 + x3)]) (rest := [.ref dh2]) (c_X0_slotOf l G x4 (d0 + x3)) ⟨hx, hb, hml, hown, hts⟩ g_X0_50 hds_X0_slotOf hK hST hS hP [] rfl ⟨Nat.le_of_ble_eq_true rfl, Nat.le_of_ble_eq_true rfl⟩ ⟨Nat.le_of_ble_eq_true rfl, Nat.le_of_ble_eq_true rfl⟩ rfl hl.1 rfl (Nat.le_of_ble_eq_true rfl) dX0_beginDays_50 rfl (fun b_7 => ?_)
                refine lv_iconst (v := (0 : Int32)) hx hb dX0_beginDays_53 (by decide) ?_
                refine w_S (own := RX0) (cs := [[cArr G dh2 64 dL'.2.2.1]]) (rs := [[cArr G dh1 64 u_6], [(dh0, .inr (4, [.int dL'.1, .ref dh1, .ref dh2, .ref dh3, .ref dh4, .ref dh5, .ref dh6]))], [cArr G dh3 5 dL'.2.2.2.1], [cArr G dh4 10 dL'.2.2.2.2.1], [cArr G dh5 10 dL'.2.2.2.2.2.1], [cArr G dh6 10 dL'.2.2.2.2.2.2]]) (As := [.ref dh2, .int (f_X0_slotOf x4 (d0 + x3)), .int (0 : Int32)]) (rest := []) (c_X7_put l G dh2 H.size 64 dL'.2.2.1 (f_X0_slotOf x4 (d0 + x3)) (0 : Int32) (by decide)) ⟨hx, hb, hml, hown, hts⟩ g_X0_40 hds_X7_put hK hST hS hP hD hA [2] [0, 1, 3, 4, 5, 6] rfl rfl rfl ⟨Nat.le_of_ble_eq_true rfl, Nat.le_of_ble_eq_true rfl⟩ ⟨Nat.le_of_ble_eq_true rfl, Nat.le_of_ble_eq_true rfl⟩ rfl hl.1 rfl (Nat.le_of_ble_eq_true rfl) dX0_beginDays_54 (fun u_9 H locs huu hP hD hS => ?_)
                have eu_9 := huu
                have hP : va_P G.1 vwCl (fl [[cArr G dh2 64 u_9], [cArr G dh1 64 u_6], [(dh0, .inr (4, [.int dL'.1, .ref dh1, .ref dh2, .ref dh3, .ref dh4, .ref dh5, .ref dh6]))], [cArr G dh3 5 dL'.2.2.2.1], [cArr G dh4 10 dL'.2.2.2.2.1], [cArr G dh5 10 dL'.2.2.2.2.2.1], [cArr G dh6 10 dL'.2.2.2.2.2.2]]) H := hP
                have hD : va_D A (fl [[cArr G dh2 64 u_9], [cArr G dh1 64 u_6], [(dh0, .inr (4, [.int dL'.1, .ref dh1, .ref dh2, .ref dh3, .ref dh4, .ref dh5, .ref dh6]))], [cArr G dh3 5 dL'.2.2.2.1], [cArr G dh4 10 dL'.2.2.2.2.1], [cArr G dh5 10 dL'.2.2.2.2.2.1], [cArr G dh6 10 dL'.2.2.2.2.2.2]]) := hD
                refine W.eq (g2 := F0 m 57 ls []) rfl ?_
                have hI : (lp_X0_beginDays_18 d d0 d1 x3 dL ((((8 : Int32)).toInt - ((0 : Int32)).toInt).toNat + 1) (0 : Int32) dL) = (lp_X0_beginDays_18 d d0 d1 x3 dL n (x4 + 1) (dL'.1, u_6, u_9, dL'.2.2.2.1, dL'.2.2.2.2.1, dL'.2.2.2.2.2.1, dL'.2.2.2.2.2.2)) := by subst eu_9; exact hI
                refine lv_iinc (v := (x4 + 1)) (lv' := [(4, .int (x4 + 1)), (3, .int x3), (0, .ref dh0), (1, .int d0), (2, .int d1)]) hx hb dX0_beginDays_57 hl (k := 0) rfl rfl (by decide) rfl (fun ls hl => ?_)
                refine lv_goto (tgt := 18) hx hb dX0_beginDays_60 (by decide) ?_
                have hP := fl_sub (cs := [[(dh0, .inr (4, [.int dL'.1, .ref dh1, .ref dh2, .ref dh3, .ref dh4, .ref dh5, .ref dh6]))], [cArr G dh1 64 u_6], [cArr G dh2 64 u_9], [cArr G dh3 5 dL'.2.2.2.1], [cArr G dh4 10 dL'.2.2.2.2.1], [cArr G dh5 10 dL'.2.2.2.2.2.1], [cArr G dh6 10 dL'.2.2.2.2.2.2]]) [2, 1, 0, 3, 4, 5, 6] rfl hP
                have hD := fl_subD (cs := [[(dh0, .inr (4, [.int dL'.1, .ref dh1, .ref dh2, .ref dh3, .ref dh4, .ref dh5, .ref dh6]))], [cArr G dh1 64 u_6], [cArr G dh2 64 u_9], [cArr G dh3 5 dL'.2.2.2.1], [cArr G dh4 10 dL'.2.2.2.2.1], [cArr G dh5 10 dL'.2.2.2.2.2.1], [cArr G dh6 10 dL'.2.2.2.2.2.2]]) [2, 1, 0, 3, 4, 5, 6] rfl rfl hD
                exact ih (x4 + 1) (dL'.1, u_6, u_9, dL'.2.2.2.1, dL'.2.2.2.2.1, dL'.2.2.2.2.2.1, dL'.2.2.2.2.2.2) _ _ ls (lv_sub hl [0, 1, 2, 3, 4] rfl) hP hD hS (upI_s (Int32.not_le.mp c_3) hu) hI
          exact L18 ((((8 : Int32)).toInt - ((0 : Int32)).toInt).toNat + 1) (0 : Int32) dL _ _ ls (lv_sub hl [0, 1, 2, 3, 4] rfl) hP hD hS (upI_i) rfl
  exact L2 ((((8 : Int32)).toInt - ((1 : Int32)).toInt + 1).toNat + 1) (1 : Int32) d _ _ ls (lv_sub hl [0, 1, 2, 3] rfl) hP hD hS (upE_i) hF
theorem dX0_countEntries_0 : decode cX0_countEntries 0 = .ok (.iload_n 2, 1) := by decide +kernel
theorem dX0_countEntries_1 : decode cX0_countEntries 1 = .ok (.ifCond .ge 7, 3) := by decide +kernel
theorem dX0_countEntries_8 : decode cX0_countEntries 8 = .ok (.aload_n 0, 1) := by decide +kernel
theorem dX0_countEntries_9 : decode cX0_countEntries 9 = .ok (.getfield 15, 3) := by decide +kernel
theorem dX0_countEntries_12 : decode cX0_countEntries 12 = .ok (.iload_n 1, 1) := by decide +kernel
theorem dX0_countEntries_13 : decode cX0_countEntries 13 = .ok (.iload_n 2, 1) := by decide +kernel
theorem dX0_countEntries_14 : decode cX0_countEntries 14 = .ok (.invokestatic 50, 3) := by decide +kernel
theorem dX0_countEntries_17 : decode cX0_countEntries 17 = .ok (.invokestatic 53, 3) := by decide +kernel
theorem u_1423 : Cond.methodLink RX0 53 yX7_at ∈ UW := uw 1423 (by decide +kernel) rfl
theorem g_X0_53 : GoodIn UW (va_wsS RX0 53 yX7_at (wsU yX7_at cX7_at 2 (some .int))) := gS u_1423 u_505 u_43 u_506
theorem dX0_countEntries_20 : decode cX0_countEntries 20 = .ok (.ireturn, 1) := by decide +kernel
theorem dX0_countEntries_4 : decode cX0_countEntries 4 = .ok (.iconst 0, 1) := by decide +kernel
theorem dX0_countEntries_5 : decode cX0_countEntries 5 = .ok (.goto 15, 3) := by decide +kernel
def f_X0_countEntries (d : AuV) (dr : Int32) (dy : Int32) : Int32 := (if (0 : Int32) ≤ dy then (f_X7_at 64 d.2.1 (f_X0_slotOf dr dy)) else (0 : Int32))
set_option maxHeartbeats 4000000 in
set_option maxRecDepth 100000 in
theorem c_X0_countEntries (l : Launch) (G : GG) (dh0 : Nat) (dh1 : Nat) (dh2 : Nat) (dh3 : Nat) (dh4 : Nat) (dh5 : Nat) (dh6 : Nat) (d : AuV) (dr : Int32) (dy : Int32) : rMet l yX0_countEntries cX0_countEntries 3 (some .int) 3 G (fl [wAu G dh0 dh1 dh2 dh3 dh4 dh5 dh6 d]) [.ref dh0, .int dr, .int dy] (some (.int (f_X0_countEntries d dr dy))) (True) := by
  refine r_start (by decide +kernel) (Nat.le_of_ble_eq_true rfl) ?_
  intro p e s m below meth c hx hb hr hml hts hown hlk hP hK hST ls hl
  have hS : va_S (fun _ => False) s.heap s.heap [] := va_S.rf
  have hown : s.vm.findClass RX0 = some m.cls := hown
  have hl : lv_has ls 3 [(0, .ref dh0), (1, .int dr), (2, .int dy)] := hl
  have hF : f_X0_countEntries d dr dy = (if (0 : Int32) ≤ dy then (f_X7_at 64 d.2.1 (f_X0_slotOf dr dy)) else (0 : Int32)) := rfl
  refine lv_iload_n hx hb dX0_countEntries_0 rfl (lv_at hl 2 rfl) ?_
  refine lv_if_ge (tgt := 8) hx hb dX0_countEntries_1 (by decide) (fun c_1 => ?_) (fun c_1 => ?_)
  · have hF := hF.trans (if_pos c_1)
    refine lv_aload_n hx hb dX0_countEntries_8 rfl (lv_at hl 0 rfl) ?_
    refine va_get (D := G.1) (ci := 4) (v := .ref dh1) (C := RX0) (T := TX0) (N := 7) hx hb hts uws_X0 hown hK hP 0 rfl rfl 1 (by decide) (hts _ u_1003) (fun _ h9 => h9) rfl dX0_countEntries_9 ?_
    refine lv_iload_n hx hb dX0_countEntries_12 rfl (lv_at hl 1 rfl) ?_
    refine lv_iload_n hx hb dX0_countEntries_13 rfl (lv_at hl 2 rfl) ?_
    refine r_S (own := RX0) (v := (some (.int (f_X0_slotOf dr dy)))) (st1 := [.int (f_X0_slotOf dr dy), .ref dh1]) (As := [.int dr, .int dy]) (rest := [.ref dh1]) (c_X0_slotOf l G dr dy) ⟨hx, hb, hml, hown, hts⟩ g_X0_50 hds_X0_slotOf hK hST hS hP [] rfl ⟨Nat.le_of_ble_eq_true rfl, Nat.le_of_ble_eq_true rfl⟩ ⟨Nat.le_of_ble_eq_true rfl, Nat.le_of_ble_eq_true rfl⟩ rfl hl.1 rfl (Nat.le_of_ble_eq_true rfl) dX0_countEntries_14 rfl (fun b_2 => ?_)
    refine r_S (own := RX0) (v := (some (.int (f_X7_at 64 d.2.1 (f_X0_slotOf dr dy))))) (st1 := [.int (f_X7_at 64 d.2.1 (f_X0_slotOf dr dy))]) (As := [.ref dh1, .int (f_X0_slotOf dr dy)]) (rest := []) (c_X7_at l G dh1 64 d.2.1 (f_X0_slotOf dr dy) (by decide)) ⟨hx, hb, hml, hown, hts⟩ g_X0_53 hds_X7_at hK hST hS hP [1] rfl ⟨Nat.le_of_ble_eq_true rfl, Nat.le_of_ble_eq_true rfl⟩ ⟨Nat.le_of_ble_eq_true rfl, Nat.le_of_ble_eq_true rfl⟩ rfl hl.1 rfl (Nat.le_of_ble_eq_true rfl) dX0_countEntries_17 rfl (fun b_3 => ?_)
    exact r_ret hx hb hr hlk rfl (by rw [hF]) trivial dX0_countEntries_20
  · have hF := hF.trans (if_neg c_1)
    refine lv_iconst (v := (0 : Int32)) hx hb dX0_countEntries_4 (by decide) ?_
    refine lv_goto (tgt := 20) hx hb dX0_countEntries_5 (by decide) ?_
    exact r_ret hx hb hr hlk rfl (by rw [hF]) trivial dX0_countEntries_20
theorem dX0_countRefusals_0 : decode cX0_countRefusals 0 = .ok (.iload_n 2, 1) := by decide +kernel
theorem dX0_countRefusals_1 : decode cX0_countRefusals 1 = .ok (.ifCond .ge 7, 3) := by decide +kernel
theorem dX0_countRefusals_8 : decode cX0_countRefusals 8 = .ok (.aload_n 0, 1) := by decide +kernel
theorem dX0_countRefusals_9 : decode cX0_countRefusals 9 = .ok (.getfield 19, 3) := by decide +kernel
theorem dX0_countRefusals_12 : decode cX0_countRefusals 12 = .ok (.iload_n 1, 1) := by decide +kernel
theorem dX0_countRefusals_13 : decode cX0_countRefusals 13 = .ok (.iload_n 2, 1) := by decide +kernel
theorem dX0_countRefusals_14 : decode cX0_countRefusals 14 = .ok (.invokestatic 50, 3) := by decide +kernel
theorem dX0_countRefusals_17 : decode cX0_countRefusals 17 = .ok (.invokestatic 53, 3) := by decide +kernel
theorem dX0_countRefusals_20 : decode cX0_countRefusals 20 = .ok (.ireturn, 1) := by decide +kernel
theorem dX0_countRefusals_4 : decode cX0_countRefusals 4 = .ok (.iconst 0, 1) := by decide +kernel
theorem dX0_countRefusals_5 : decode cX0_countRefusals 5 = .ok (.goto 15, 3) := by decide +kernel
def f_X0_countRefusals (d : AuV) (dr : Int32) (dy : Int32) : Int32 := (if (0 : Int32) ≤ dy then (f_X7_at 64 d.2.2.1 (f_X0_slotOf dr dy)) else (0 : Int32))
set_option maxHeartbeats 4000000 in
set_option maxRecDepth 100000 in
theorem c_X0_countRefusals (l : Launch) (G : GG) (dh0 : Nat) (dh1 : Nat) (dh2 : Nat) (dh3 : Nat) (dh4 : Nat) (dh5 : Nat) (dh6 : Nat) (d : AuV) (dr : Int32) (dy : Int32) : rMet l yX0_countRefusals cX0_countRefusals 3 (some .int) 3 G (fl [wAu G dh0 dh1 dh2 dh3 dh4 dh5 dh6 d]) [.ref dh0, .int dr, .int dy] (some (.int (f_X0_countRefusals d dr dy))) (True) := by
  refine r_start (by decide +kernel) (Nat.le_of_ble_eq_true rfl) ?_
  intro p e s m below meth c hx hb hr hml hts hown hlk hP hK hST ls hl
  have hS : va_S (fun _ => False) s.heap s.heap [] := va_S.rf
  have hown : s.vm.findClass RX0 = some m.cls := hown
  have hl : lv_has ls 3 [(0, .ref dh0), (1, .int dr), (2, .int dy)] := hl
  have hF : f_X0_countRefusals d dr dy = (if (0 : Int32) ≤ dy then (f_X7_at 64 d.2.2.1 (f_X0_slotOf dr dy)) else (0 : Int32)) := rfl
  refine lv_iload_n hx hb dX0_countRefusals_0 rfl (lv_at hl 2 rfl) ?_
  refine lv_if_ge (tgt := 8) hx hb dX0_countRefusals_1 (by decide) (fun c_1 => ?_) (fun c_1 => ?_)
  · have hF := hF.trans (if_pos c_1)
    refine lv_aload_n hx hb dX0_countRefusals_8 rfl (lv_at hl 0 rfl) ?_
    refine va_get (D := G.1) (ci := 4) (v := .ref dh2) (C := RX0) (T := TX0) (N := 7) hx hb hts uws_X0 hown hK hP 0 rfl rfl 2 (by decide) (hts _ u_1004) (fun _ h9 => h9) rfl dX0_countRefusals_9 ?_
    refine lv_iload_n hx hb dX0_countRefusals_12 rfl (lv_at hl 1 rfl) ?_
    refine lv_iload_n hx hb dX0_countRefusals_13 rfl (lv_at hl 2 rfl) ?_
    refine r_S (own := RX0) (v := (some (.int (f_X0_slotOf dr dy)))) (st1 := [.int (f_X0_slotOf dr dy), .ref dh2]) (As := [.int dr, .int dy]) (rest := [.ref dh2]) (c_X0_slotOf l G dr dy) ⟨hx, hb, hml, hown, hts⟩ g_X0_50 hds_X0_slotOf hK hST hS hP [] rfl ⟨Nat.le_of_ble_eq_true rfl, Nat.le_of_ble_eq_true rfl⟩ ⟨Nat.le_of_ble_eq_true rfl, Nat.le_of_ble_eq_true rfl⟩ rfl hl.1 rfl (Nat.le_of_ble_eq_true rfl) dX0_countRefusals_14 rfl (fun b_2 => ?_)
    refine r_S (own := RX0) (v := (some (.int (f_X7_at 64 d.2.2.1 (f_X0_slotOf dr dy))))) (st1 := [.int (f_X7_at 64 d.2.2.1 (f_X0_slotOf dr dy))]) (As := [.ref dh2, .int (f_X0_slotOf dr dy)]) (rest := []) (c_X7_at l G dh2 64 d.2.2.1 (f_X0_slotOf dr dy) (by decide)) ⟨hx, hb, hml, hown, hts⟩ g_X0_53 hds_X7_at hK hST hS hP [2] rfl ⟨Nat.le_of_ble_eq_true rfl, Nat.le_of_ble_eq_true rfl⟩ ⟨Nat.le_of_ble_eq_true rfl, Nat.le_of_ble_eq_true rfl⟩ rfl hl.1 rfl (Nat.le_of_ble_eq_true rfl) dX0_countRefusals_17 rfl (fun b_3 => ?_)
    exact r_ret hx hb hr hlk rfl (by rw [hF]) trivial dX0_countRefusals_20
  · have hF := hF.trans (if_neg c_1)
    refine lv_iconst (v := (0 : Int32)) hx hb dX0_countRefusals_4 (by decide) ?_
    refine lv_goto (tgt := 20) hx hb dX0_countRefusals_5 (by decide) ?_
    exact r_ret hx hb hr hlk rfl (by rw [hF]) trivial dX0_countRefusals_20
theorem dX0_countResults_0 : decode cX0_countResults 0 = .ok (.aload_n 0, 1) := by decide +kernel
theorem dX0_countResults_1 : decode cX0_countResults 1 = .ok (.getfield 22, 3) := by decide +kernel
theorem dX0_countResults_4 : decode cX0_countResults 4 = .ok (.iload_n 1, 1) := by decide +kernel
theorem dX0_countResults_5 : decode cX0_countResults 5 = .ok (.invokestatic 53, 3) := by decide +kernel
theorem dX0_countResults_8 : decode cX0_countResults 8 = .ok (.ireturn, 1) := by decide +kernel
def f_X0_countResults (d : AuV) (i : Int32) : Int32 := (f_X7_at 5 d.2.2.2.1 i)
set_option maxHeartbeats 4000000 in
set_option maxRecDepth 100000 in
theorem c_X0_countResults (l : Launch) (G : GG) (dh0 : Nat) (dh1 : Nat) (dh2 : Nat) (dh3 : Nat) (dh4 : Nat) (dh5 : Nat) (dh6 : Nat) (d : AuV) (i : Int32) : rMet l yX0_countResults cX0_countResults 2 (some .int) 2 G (fl [wAu G dh0 dh1 dh2 dh3 dh4 dh5 dh6 d]) [.ref dh0, .int i] (some (.int (f_X0_countResults d i))) (True) := by
  refine r_start (by decide +kernel) (Nat.le_of_ble_eq_true rfl) ?_
  intro p e s m below meth c hx hb hr hml hts hown hlk hP hK hST ls hl
  have hS : va_S (fun _ => False) s.heap s.heap [] := va_S.rf
  have hown : s.vm.findClass RX0 = some m.cls := hown
  have hl : lv_has ls 2 [(0, .ref dh0), (1, .int i)] := hl
  have hF : f_X0_countResults d i = (f_X7_at 5 d.2.2.2.1 i) := rfl
  refine lv_aload_n hx hb dX0_countResults_0 rfl (lv_at hl 0 rfl) ?_
  refine va_get (D := G.1) (ci := 4) (v := .ref dh3) (C := RX0) (T := TX0) (N := 7) hx hb hts uws_X0 hown hK hP 0 rfl rfl 3 (by decide) (hts _ u_1005) (fun _ h9 => h9) rfl dX0_countResults_1 ?_
  refine lv_iload_n hx hb dX0_countResults_4 rfl (lv_at hl 1 rfl) ?_
  refine r_S (own := RX0) (v := (some (.int (f_X7_at 5 d.2.2.2.1 i)))) (st1 := [.int (f_X7_at 5 d.2.2.2.1 i)]) (As := [.ref dh3, .int i]) (rest := []) (c_X7_at l G dh3 5 d.2.2.2.1 i (by decide)) ⟨hx, hb, hml, hown, hts⟩ g_X0_53 hds_X7_at hK hST hS hP [3] rfl ⟨Nat.le_of_ble_eq_true rfl, Nat.le_of_ble_eq_true rfl⟩ ⟨Nat.le_of_ble_eq_true rfl, Nat.le_of_ble_eq_true rfl⟩ rfl hl.1 rfl (Nat.le_of_ble_eq_true rfl) dX0_countResults_5 rfl (fun b_1 => ?_)
  exact r_ret hx hb hr hlk rfl (by rw [hF]) trivial dX0_countResults_8
theorem dX0_remembers_0 : decode cX0_remembers 0 = .ok (.iload_n 1, 1) := by decide +kernel
theorem dX0_remembers_1 : decode cX0_remembers 1 = .ok (.ifCond .lt 21, 3) := by decide +kernel
theorem dX0_remembers_22 : decode cX0_remembers 22 = .ok (.iconst 0, 1) := by decide +kernel
theorem dX0_remembers_23 : decode cX0_remembers 23 = .ok (.ireturn, 1) := by decide +kernel
theorem dX0_remembers_4 : decode cX0_remembers 4 = .ok (.iload_n 1, 1) := by decide +kernel
theorem dX0_remembers_5 : decode cX0_remembers 5 = .ok (.bipush 10, 2) := by decide +kernel
theorem dX0_remembers_7 : decode cX0_remembers 7 = .ok (.if_icmp .ge 15, 3) := by decide +kernel
theorem dX0_remembers_10 : decode cX0_remembers 10 = .ok (.iload_n 1, 1) := by decide +kernel
theorem dX0_remembers_11 : decode cX0_remembers 11 = .ok (.aload_n 0, 1) := by decide +kernel
theorem dX0_remembers_12 : decode cX0_remembers 12 = .ok (.getfield 9, 3) := by decide +kernel
theorem dX0_remembers_15 : decode cX0_remembers 15 = .ok (.if_icmp .ge 7, 3) := by decide +kernel
theorem dX0_remembers_18 : decode cX0_remembers 18 = .ok (.iconst 1, 1) := by decide +kernel
theorem dX0_remembers_19 : decode cX0_remembers 19 = .ok (.goto 4, 3) := by decide +kernel
def f_X0_remembers (d : AuV) (i : Int32) : Int32 := (if i < (0 : Int32) then (0 : Int32) else (if (10 : Int32) ≤ i then (0 : Int32) else (if d.1 ≤ i then (0 : Int32) else (1 : Int32))))
set_option maxHeartbeats 4000000 in
set_option maxRecDepth 100000 in
theorem c_X0_remembers (l : Launch) (G : GG) (dh0 : Nat) (dh1 : Nat) (dh2 : Nat) (dh3 : Nat) (dh4 : Nat) (dh5 : Nat) (dh6 : Nat) (d : AuV) (i : Int32) : rMet l yX0_remembers cX0_remembers 2 (some .boolean) 1 G (fl [wAu G dh0 dh1 dh2 dh3 dh4 dh5 dh6 d]) [.ref dh0, .int i] (some (.int (f_X0_remembers d i))) (narrow .boolean (.int (f_X0_remembers d i)) = .int (f_X0_remembers d i)) := by
  refine r_start (by decide +kernel) (Nat.le_of_ble_eq_true rfl) ?_
  intro p e s m below meth c hx hb hr hml hts hown hlk hP hK hST ls hl
  have hS : va_S (fun _ => False) s.heap s.heap [] := va_S.rf
  have hown : s.vm.findClass RX0 = some m.cls := hown
  have hl : lv_has ls 2 [(0, .ref dh0), (1, .int i)] := hl
  have hF : f_X0_remembers d i = (if i < (0 : Int32) then (0 : Int32) else (if (10 : Int32) ≤ i then (0 : Int32) else (if d.1 ≤ i then (0 : Int32) else (1 : Int32)))) := rfl
  refine lv_iload_n hx hb dX0_remembers_0 rfl (lv_at hl 1 rfl) ?_
  refine lv_if_lt (tgt := 22) hx hb dX0_remembers_1 (by decide) (fun c_1 => ?_) (fun c_1 => ?_)
  · have hF := hF.trans (if_pos c_1)
    refine lv_iconst (v := (0 : Int32)) hx hb dX0_remembers_22 (by decide) ?_
    exact r_ret hx hb hr hlk rfl (by rw [hF]) (by rw [hF]; exact (rfl : narrow .boolean (.int (0 : Int32)) = .int (0 : Int32))) dX0_remembers_23
  · have hF := hF.trans (if_neg c_1)
    refine lv_iload_n hx hb dX0_remembers_4 rfl (lv_at hl 1 rfl) ?_
    refine lv_bipush (v := (10 : Int32)) hx hb dX0_remembers_5 (by decide) ?_
    refine lv_icmp_ge (tgt := 22) hx hb dX0_remembers_7 (by decide) (fun c_2 => ?_) (fun c_2 => ?_)
    · have hF := hF.trans (if_pos c_2)
      refine lv_iconst (v := (0 : Int32)) hx hb dX0_remembers_22 (by decide) ?_
      exact r_ret hx hb hr hlk rfl (by rw [hF]) (by rw [hF]; exact (rfl : narrow .boolean (.int (0 : Int32)) = .int (0 : Int32))) dX0_remembers_23
    · have hF := hF.trans (if_neg c_2)
      refine lv_iload_n hx hb dX0_remembers_10 rfl (lv_at hl 1 rfl) ?_
      refine lv_aload_n hx hb dX0_remembers_11 rfl (lv_at hl 0 rfl) ?_
      refine va_get (D := G.1) (ci := 4) (v := .int d.1) (C := RX0) (T := TX0) (N := 7) hx hb hts uws_X0 hown hK hP 0 rfl rfl 0 (by decide) (hts _ u_1001) (fun _ h9 => h9) rfl dX0_remembers_12 ?_
      refine lv_icmp_ge (tgt := 22) hx hb dX0_remembers_15 (by decide) (fun c_3 => ?_) (fun c_3 => ?_)
      · have hF := hF.trans (if_pos c_3)
        refine lv_iconst (v := (0 : Int32)) hx hb dX0_remembers_22 (by decide) ?_
        exact r_ret hx hb hr hlk rfl (by rw [hF]) (by rw [hF]; exact (rfl : narrow .boolean (.int (0 : Int32)) = .int (0 : Int32))) dX0_remembers_23
      · have hF := hF.trans (if_neg c_3)
        refine lv_iconst (v := (1 : Int32)) hx hb dX0_remembers_18 (by decide) ?_
        refine lv_goto (tgt := 23) hx hb dX0_remembers_19 (by decide) ?_
        exact r_ret hx hb hr hlk rfl (by rw [hF]) (by rw [hF]; exact (rfl : narrow .boolean (.int (1 : Int32)) = .int (1 : Int32))) dX0_remembers_23
theorem dX0_personAt_0 : decode cX0_personAt 0 = .ok (.aload_n 0, 1) := by decide +kernel
theorem dX0_personAt_1 : decode cX0_personAt 1 = .ok (.getfield 25, 3) := by decide +kernel
theorem dX0_personAt_4 : decode cX0_personAt 4 = .ok (.aload_n 0, 1) := by decide +kernel
theorem dX0_personAt_5 : decode cX0_personAt 5 = .ok (.iload_n 1, 1) := by decide +kernel
theorem dX0_personAt_6 : decode cX0_personAt 6 = .ok (.invokevirtual 57, 3) := by decide +kernel
theorem u_1489 : Cond.methodLink RX0 57 yX0_placeOf ∈ UW := uw 1489 (by decide +kernel) rfl
theorem u_1491 : Cond.instanceMethod yX0_placeOf ∈ UW := uw 1491 (by decide +kernel) rfl
theorem u_18 : Cond.selects RX0 yX0_placeOf yX0_placeOf ∈ UW := uw 18 (by decide +kernel) rfl
theorem u_1492 : Cond.code yX0_placeOf cX0_placeOf 2 (some .int) ∈ UW := uw 1492 (by decide +kernel) rfl
theorem g_X0_57 : GoodIn UW (wsV RX0 57 RX0 yX0_placeOf (wsU yX0_placeOf cX0_placeOf 2 (some .int))) := gV u_1489 u_1491 u_18 u_26 u_1492
theorem hdv_X0_placeOf : yX0_placeOf.cls = RX0 ∧ yX0_placeOf.cls ≠ "java/lang/invoke/MethodHandle" ∧ yX0_placeOf.cls ≠ "java/lang/invoke/VarHandle" ∧ (parseMethodDescriptor yX0_placeOf.desc).map (fun d => d.parameters.length) = some 1 := by decide +kernel
theorem dX0_personAt_9 : decode cX0_personAt 9 = .ok (.invokestatic 53, 3) := by decide +kernel
theorem dX0_personAt_12 : decode cX0_personAt 12 = .ok (.ireturn, 1) := by decide +kernel
def f_X0_personAt (d : AuV) (i : Int32) : Int32 := (f_X7_at 10 d.2.2.2.2.1 (f_X0_placeOf d i))
set_option maxHeartbeats 4000000 in
set_option maxRecDepth 100000 in
theorem c_X0_personAt (l : Launch) (G : GG) (dh0 : Nat) (dh1 : Nat) (dh2 : Nat) (dh3 : Nat) (dh4 : Nat) (dh5 : Nat) (dh6 : Nat) (d : AuV) (i : Int32) : rMet l yX0_personAt cX0_personAt 2 (some .int) 3 G (fl [wAu G dh0 dh1 dh2 dh3 dh4 dh5 dh6 d]) [.ref dh0, .int i] (some (.int (f_X0_personAt d i))) (True) := by
  refine r_start (by decide +kernel) (Nat.le_of_ble_eq_true rfl) ?_
  intro p e s m below meth c hx hb hr hml hts hown hlk hP hK hST ls hl
  have hS : va_S (fun _ => False) s.heap s.heap [] := va_S.rf
  have hown : s.vm.findClass RX0 = some m.cls := hown
  have hl : lv_has ls 2 [(0, .ref dh0), (1, .int i)] := hl
  have hF : f_X0_personAt d i = (f_X7_at 10 d.2.2.2.2.1 (f_X0_placeOf d i)) := rfl
  refine lv_aload_n hx hb dX0_personAt_0 rfl (lv_at hl 0 rfl) ?_
  refine va_get (D := G.1) (ci := 4) (v := .ref dh4) (C := RX0) (T := TX0) (N := 7) hx hb hts uws_X0 hown hK hP 0 rfl rfl 4 (by decide) (hts _ u_1006) (fun _ h9 => h9) rfl dX0_personAt_1 ?_
  refine lv_aload_n hx hb dX0_personAt_4 rfl (lv_at hl 0 rfl) ?_
  refine lv_iload_n hx hb dX0_personAt_5 rfl (lv_at hl 1 rfl) ?_
  refine r_V (own := RX0) (v := (some (.int (f_X0_placeOf d i)))) (st1 := [.int (f_X0_placeOf d i), .ref dh4]) (As := [.int i]) (rest := [.ref dh4]) (c_X0_placeOf l G dh0 dh1 dh2 dh3 dh4 dh5 dh6 d i) ⟨hx, hb, hml, hown, hts⟩ g_X0_57 hdv_X0_placeOf hK hST hS hP [0, 1, 2, 3, 4, 5, 6] rfl (k0 := 0) rfl rfl rfl ⟨Nat.le_of_ble_eq_true rfl, Nat.le_of_ble_eq_true rfl⟩ ⟨Nat.le_of_ble_eq_true rfl, Nat.le_of_ble_eq_true rfl⟩ rfl hl.1 rfl (Nat.le_of_ble_eq_true rfl) dX0_personAt_6 rfl (fun b_1 => ?_)
  refine r_S (own := RX0) (v := (some (.int (f_X7_at 10 d.2.2.2.2.1 (f_X0_placeOf d i))))) (st1 := [.int (f_X7_at 10 d.2.2.2.2.1 (f_X0_placeOf d i))]) (As := [.ref dh4, .int (f_X0_placeOf d i)]) (rest := []) (c_X7_at l G dh4 10 d.2.2.2.2.1 (f_X0_placeOf d i) (by decide)) ⟨hx, hb, hml, hown, hts⟩ g_X0_53 hds_X7_at hK hST hS hP [4] rfl ⟨Nat.le_of_ble_eq_true rfl, Nat.le_of_ble_eq_true rfl⟩ ⟨Nat.le_of_ble_eq_true rfl, Nat.le_of_ble_eq_true rfl⟩ rfl hl.1 rfl (Nat.le_of_ble_eq_true rfl) dX0_personAt_9 rfl (fun b_2 => ?_)
  exact r_ret hx hb hr hlk rfl (by rw [hF]) trivial dX0_personAt_12
theorem dX0_doorAt_0 : decode cX0_doorAt 0 = .ok (.aload_n 0, 1) := by decide +kernel
theorem dX0_doorAt_1 : decode cX0_doorAt 1 = .ok (.getfield 28, 3) := by decide +kernel
theorem dX0_doorAt_4 : decode cX0_doorAt 4 = .ok (.aload_n 0, 1) := by decide +kernel
theorem dX0_doorAt_5 : decode cX0_doorAt 5 = .ok (.iload_n 1, 1) := by decide +kernel
theorem dX0_doorAt_6 : decode cX0_doorAt 6 = .ok (.invokevirtual 57, 3) := by decide +kernel
theorem dX0_doorAt_9 : decode cX0_doorAt 9 = .ok (.invokestatic 53, 3) := by decide +kernel
theorem dX0_doorAt_12 : decode cX0_doorAt 12 = .ok (.ireturn, 1) := by decide +kernel
def f_X0_doorAt (d : AuV) (i : Int32) : Int32 := (f_X7_at 10 d.2.2.2.2.2.1 (f_X0_placeOf d i))
set_option maxHeartbeats 4000000 in
set_option maxRecDepth 100000 in
theorem c_X0_doorAt (l : Launch) (G : GG) (dh0 : Nat) (dh1 : Nat) (dh2 : Nat) (dh3 : Nat) (dh4 : Nat) (dh5 : Nat) (dh6 : Nat) (d : AuV) (i : Int32) : rMet l yX0_doorAt cX0_doorAt 2 (some .int) 3 G (fl [wAu G dh0 dh1 dh2 dh3 dh4 dh5 dh6 d]) [.ref dh0, .int i] (some (.int (f_X0_doorAt d i))) (True) := by
  refine r_start (by decide +kernel) (Nat.le_of_ble_eq_true rfl) ?_
  intro p e s m below meth c hx hb hr hml hts hown hlk hP hK hST ls hl
  have hS : va_S (fun _ => False) s.heap s.heap [] := va_S.rf
  have hown : s.vm.findClass RX0 = some m.cls := hown
  have hl : lv_has ls 2 [(0, .ref dh0), (1, .int i)] := hl
  have hF : f_X0_doorAt d i = (f_X7_at 10 d.2.2.2.2.2.1 (f_X0_placeOf d i)) := rfl
  refine lv_aload_n hx hb dX0_doorAt_0 rfl (lv_at hl 0 rfl) ?_
  refine va_get (D := G.1) (ci := 4) (v := .ref dh5) (C := RX0) (T := TX0) (N := 7) hx hb hts uws_X0 hown hK hP 0 rfl rfl 5 (by decide) (hts _ u_1007) (fun _ h9 => h9) rfl dX0_doorAt_1 ?_
  refine lv_aload_n hx hb dX0_doorAt_4 rfl (lv_at hl 0 rfl) ?_
  refine lv_iload_n hx hb dX0_doorAt_5 rfl (lv_at hl 1 rfl) ?_
  refine r_V (own := RX0) (v := (some (.int (f_X0_placeOf d i)))) (st1 := [.int (f_X0_placeOf d i), .ref dh5]) (As := [.int i]) (rest := [.ref dh5]) (c_X0_placeOf l G dh0 dh1 dh2 dh3 dh4 dh5 dh6 d i) ⟨hx, hb, hml, hown, hts⟩ g_X0_57 hdv_X0_placeOf hK hST hS hP [0, 1, 2, 3, 4, 5, 6] rfl (k0 := 0) rfl rfl rfl ⟨Nat.le_of_ble_eq_true rfl, Nat.le_of_ble_eq_true rfl⟩ ⟨Nat.le_of_ble_eq_true rfl, Nat.le_of_ble_eq_true rfl⟩ rfl hl.1 rfl (Nat.le_of_ble_eq_true rfl) dX0_doorAt_6 rfl (fun b_1 => ?_)
  refine r_S (own := RX0) (v := (some (.int (f_X7_at 10 d.2.2.2.2.2.1 (f_X0_placeOf d i))))) (st1 := [.int (f_X7_at 10 d.2.2.2.2.2.1 (f_X0_placeOf d i))]) (As := [.ref dh5, .int (f_X0_placeOf d i)]) (rest := []) (c_X7_at l G dh5 10 d.2.2.2.2.2.1 (f_X0_placeOf d i) (by decide)) ⟨hx, hb, hml, hown, hts⟩ g_X0_53 hds_X7_at hK hST hS hP [5] rfl ⟨Nat.le_of_ble_eq_true rfl, Nat.le_of_ble_eq_true rfl⟩ ⟨Nat.le_of_ble_eq_true rfl, Nat.le_of_ble_eq_true rfl⟩ rfl hl.1 rfl (Nat.le_of_ble_eq_true rfl) dX0_doorAt_9 rfl (fun b_2 => ?_)
  exact r_ret hx hb hr hlk rfl (by rw [hF]) trivial dX0_doorAt_12
theorem dX0_resultAt_0 : decode cX0_resultAt 0 = .ok (.aload_n 0, 1) := by decide +kernel
theorem dX0_resultAt_1 : decode cX0_resultAt 1 = .ok (.getfield 31, 3) := by decide +kernel
theorem dX0_resultAt_4 : decode cX0_resultAt 4 = .ok (.aload_n 0, 1) := by decide +kernel
theorem dX0_resultAt_5 : decode cX0_resultAt 5 = .ok (.iload_n 1, 1) := by decide +kernel
theorem dX0_resultAt_6 : decode cX0_resultAt 6 = .ok (.invokevirtual 57, 3) := by decide +kernel
theorem dX0_resultAt_9 : decode cX0_resultAt 9 = .ok (.invokestatic 53, 3) := by decide +kernel
theorem dX0_resultAt_12 : decode cX0_resultAt 12 = .ok (.ireturn, 1) := by decide +kernel
def f_X0_resultAt (d : AuV) (i : Int32) : Int32 := (f_X7_at 10 d.2.2.2.2.2.2 (f_X0_placeOf d i))
set_option maxHeartbeats 4000000 in
set_option maxRecDepth 100000 in
theorem c_X0_resultAt (l : Launch) (G : GG) (dh0 : Nat) (dh1 : Nat) (dh2 : Nat) (dh3 : Nat) (dh4 : Nat) (dh5 : Nat) (dh6 : Nat) (d : AuV) (i : Int32) : rMet l yX0_resultAt cX0_resultAt 2 (some .int) 3 G (fl [wAu G dh0 dh1 dh2 dh3 dh4 dh5 dh6 d]) [.ref dh0, .int i] (some (.int (f_X0_resultAt d i))) (True) := by
  refine r_start (by decide +kernel) (Nat.le_of_ble_eq_true rfl) ?_
  intro p e s m below meth c hx hb hr hml hts hown hlk hP hK hST ls hl
  have hS : va_S (fun _ => False) s.heap s.heap [] := va_S.rf
  have hown : s.vm.findClass RX0 = some m.cls := hown
  have hl : lv_has ls 2 [(0, .ref dh0), (1, .int i)] := hl
  have hF : f_X0_resultAt d i = (f_X7_at 10 d.2.2.2.2.2.2 (f_X0_placeOf d i)) := rfl
  refine lv_aload_n hx hb dX0_resultAt_0 rfl (lv_at hl 0 rfl) ?_
  refine va_get (D := G.1) (ci := 4) (v := .ref dh6) (C := RX0) (T := TX0) (N := 7) hx hb hts uws_X0 hown hK hP 0 rfl rfl 6 (by decide) (hts _ u_1008) (fun _ h9 => h9) rfl dX0_resultAt_1 ?_
  refine lv_aload_n hx hb dX0_resultAt_4 rfl (lv_at hl 0 rfl) ?_
  refine lv_iload_n hx hb dX0_resultAt_5 rfl (lv_at hl 1 rfl) ?_
  refine r_V (own := RX0) (v := (some (.int (f_X0_placeOf d i)))) (st1 := [.int (f_X0_placeOf d i), .ref dh6]) (As := [.int i]) (rest := [.ref dh6]) (c_X0_placeOf l G dh0 dh1 dh2 dh3 dh4 dh5 dh6 d i) ⟨hx, hb, hml, hown, hts⟩ g_X0_57 hdv_X0_placeOf hK hST hS hP [0, 1, 2, 3, 4, 5, 6] rfl (k0 := 0) rfl rfl rfl ⟨Nat.le_of_ble_eq_true rfl, Nat.le_of_ble_eq_true rfl⟩ ⟨Nat.le_of_ble_eq_true rfl, Nat.le_of_ble_eq_true rfl⟩ rfl hl.1 rfl (Nat.le_of_ble_eq_true rfl) dX0_resultAt_6 rfl (fun b_1 => ?_)
  refine r_S (own := RX0) (v := (some (.int (f_X7_at 10 d.2.2.2.2.2.2 (f_X0_placeOf d i))))) (st1 := [.int (f_X7_at 10 d.2.2.2.2.2.2 (f_X0_placeOf d i))]) (As := [.ref dh6, .int (f_X0_placeOf d i)]) (rest := []) (c_X7_at l G dh6 10 d.2.2.2.2.2.2 (f_X0_placeOf d i) (by decide)) ⟨hx, hb, hml, hown, hts⟩ g_X0_53 hds_X7_at hK hST hS hP [6] rfl ⟨Nat.le_of_ble_eq_true rfl, Nat.le_of_ble_eq_true rfl⟩ ⟨Nat.le_of_ble_eq_true rfl, Nat.le_of_ble_eq_true rfl⟩ rfl hl.1 rfl (Nat.le_of_ble_eq_true rfl) dX0_resultAt_9 rfl (fun b_2 => ?_)
  exact r_ret hx hb hr hlk rfl (by rw [hF]) trivial dX0_resultAt_12
theorem dX0_copyFrom_0 : decode cX0_copyFrom 0 = .ok (.aload_n 1, 1) := by decide +kernel
theorem dX0_copyFrom_1 : decode cX0_copyFrom 1 = .ok (.ifnonnull 4, 3) := by decide +kernel
theorem dX0_copyFrom_5 : decode cX0_copyFrom 5 = .ok (.aload_n 0, 1) := by decide +kernel
theorem dX0_copyFrom_6 : decode cX0_copyFrom 6 = .ok (.aload_n 1, 1) := by decide +kernel
theorem dX0_copyFrom_7 : decode cX0_copyFrom 7 = .ok (.getfield 9, 3) := by decide +kernel
theorem dX0_copyFrom_10 : decode cX0_copyFrom 10 = .ok (.putfield 9, 3) := by decide +kernel
theorem dX0_copyFrom_13 : decode cX0_copyFrom 13 = .ok (.aload_n 1, 1) := by decide +kernel
theorem dX0_copyFrom_14 : decode cX0_copyFrom 14 = .ok (.getfield 15, 3) := by decide +kernel
theorem dX0_copyFrom_17 : decode cX0_copyFrom 17 = .ok (.aload_n 0, 1) := by decide +kernel
theorem dX0_copyFrom_18 : decode cX0_copyFrom 18 = .ok (.getfield 15, 3) := by decide +kernel
theorem dX0_copyFrom_21 : decode cX0_copyFrom 21 = .ok (.invokestatic 61, 3) := by decide +kernel
theorem u_574 : Cond.methodLink RX0 61 yX7_copy ∈ UW := uw 574 (by decide +kernel) rfl
theorem g_X0_61 : GoodIn UW (va_wsS RX0 61 yX7_copy (wsU yX7_copy cX7_copy 3 none)) := gS u_574 u_558 u_43 u_559
theorem dX0_copyFrom_24 : decode cX0_copyFrom 24 = .ok (.aload_n 1, 1) := by decide +kernel
theorem dX0_copyFrom_25 : decode cX0_copyFrom 25 = .ok (.getfield 19, 3) := by decide +kernel
theorem dX0_copyFrom_28 : decode cX0_copyFrom 28 = .ok (.aload_n 0, 1) := by decide +kernel
theorem dX0_copyFrom_29 : decode cX0_copyFrom 29 = .ok (.getfield 19, 3) := by decide +kernel
theorem dX0_copyFrom_32 : decode cX0_copyFrom 32 = .ok (.invokestatic 61, 3) := by decide +kernel
theorem dX0_copyFrom_35 : decode cX0_copyFrom 35 = .ok (.aload_n 1, 1) := by decide +kernel
theorem dX0_copyFrom_36 : decode cX0_copyFrom 36 = .ok (.getfield 22, 3) := by decide +kernel
theorem dX0_copyFrom_39 : decode cX0_copyFrom 39 = .ok (.aload_n 0, 1) := by decide +kernel
theorem dX0_copyFrom_40 : decode cX0_copyFrom 40 = .ok (.getfield 22, 3) := by decide +kernel
theorem dX0_copyFrom_43 : decode cX0_copyFrom 43 = .ok (.invokestatic 61, 3) := by decide +kernel
theorem dX0_copyFrom_46 : decode cX0_copyFrom 46 = .ok (.aload_n 1, 1) := by decide +kernel
theorem dX0_copyFrom_47 : decode cX0_copyFrom 47 = .ok (.getfield 25, 3) := by decide +kernel
theorem dX0_copyFrom_50 : decode cX0_copyFrom 50 = .ok (.aload_n 0, 1) := by decide +kernel
theorem dX0_copyFrom_51 : decode cX0_copyFrom 51 = .ok (.getfield 25, 3) := by decide +kernel
theorem dX0_copyFrom_54 : decode cX0_copyFrom 54 = .ok (.invokestatic 61, 3) := by decide +kernel
theorem dX0_copyFrom_57 : decode cX0_copyFrom 57 = .ok (.aload_n 1, 1) := by decide +kernel
theorem dX0_copyFrom_58 : decode cX0_copyFrom 58 = .ok (.getfield 28, 3) := by decide +kernel
theorem dX0_copyFrom_61 : decode cX0_copyFrom 61 = .ok (.aload_n 0, 1) := by decide +kernel
theorem dX0_copyFrom_62 : decode cX0_copyFrom 62 = .ok (.getfield 28, 3) := by decide +kernel
theorem dX0_copyFrom_65 : decode cX0_copyFrom 65 = .ok (.invokestatic 61, 3) := by decide +kernel
theorem dX0_copyFrom_68 : decode cX0_copyFrom 68 = .ok (.aload_n 1, 1) := by decide +kernel
theorem dX0_copyFrom_69 : decode cX0_copyFrom 69 = .ok (.getfield 31, 3) := by decide +kernel
theorem dX0_copyFrom_72 : decode cX0_copyFrom 72 = .ok (.aload_n 0, 1) := by decide +kernel
theorem dX0_copyFrom_73 : decode cX0_copyFrom 73 = .ok (.getfield 31, 3) := by decide +kernel
theorem dX0_copyFrom_76 : decode cX0_copyFrom 76 = .ok (.invokestatic 61, 3) := by decide +kernel
theorem dX0_copyFrom_79 : decode cX0_copyFrom 79 = .ok (.return_, 1) := by decide +kernel
def f_X0_copyFrom (d : AuV) (o : AuV) : AuV := (let u_2 : (Nat → Int32) := (f_X7_copy 64 o.2.1 64 d.2.1); (let u_4 : (Nat → Int32) := (f_X7_copy 64 o.2.2.1 64 d.2.2.1); (let u_6 : (Nat → Int32) := (f_X7_copy 5 o.2.2.2.1 5 d.2.2.2.1); (let u_8 : (Nat → Int32) := (f_X7_copy 10 o.2.2.2.2.1 10 d.2.2.2.2.1); (let u_10 : (Nat → Int32) := (f_X7_copy 10 o.2.2.2.2.2.1 10 d.2.2.2.2.2.1); (let u_12 : (Nat → Int32) := (f_X7_copy 10 o.2.2.2.2.2.2 10 d.2.2.2.2.2.2); (o.1, u_2, u_4, u_6, u_8, u_10, u_12)))))))
set_option maxHeartbeats 4000000 in
set_option maxRecDepth 100000 in
theorem c_X0_copyFrom (l : Launch) (G : GG) (dh0 : Nat) (dh1 : Nat) (dh2 : Nat) (dh3 : Nat) (dh4 : Nat) (dh5 : Nat) (dh6 : Nat) (oh0 : Nat) (oh1 : Nat) (oh2 : Nat) (oh3 : Nat) (oh4 : Nat) (oh5 : Nat) (oh6 : Nat) (sz : Nat) (d : AuV) (o : AuV) : wMet l yX0_copyFrom cX0_copyFrom 2 none 2 0 0 G (fl [wAu G dh0 dh1 dh2 dh3 dh4 dh5 dh6 d, wAu G oh0 oh1 oh2 oh3 oh4 oh5 oh6 o]) [.ref dh0, .ref oh0] sz (fun u : AuV => none) (fun u : AuV => u = f_X0_copyFrom d o) (fun u : AuV => fl [wAu G dh0 dh1 dh2 dh3 dh4 dh5 dh6 u, wAu G oh0 oh1 oh2 oh3 oh4 oh5 oh6 o]) := by
  refine w_start (by decide +kernel) (Nat.le_of_ble_eq_true rfl) ?_
  intro p e s m below meth c A hx hb hr hml hts hown hlk hin hP hD hA hK hST ls hl
  have hS : va_S A s.heap s.heap [] := va_S.rf
  have hown : s.vm.findClass RX0 = some m.cls := hown
  have hl : lv_has ls 2 [(0, .ref dh0), (1, .ref oh0)] := hl
  have hF : f_X0_copyFrom d o = (let u_2 : (Nat → Int32) := (f_X7_copy 64 o.2.1 64 d.2.1); (let u_4 : (Nat → Int32) := (f_X7_copy 64 o.2.2.1 64 d.2.2.1); (let u_6 : (Nat → Int32) := (f_X7_copy 5 o.2.2.2.1 5 d.2.2.2.1); (let u_8 : (Nat → Int32) := (f_X7_copy 10 o.2.2.2.2.1 10 d.2.2.2.2.1); (let u_10 : (Nat → Int32) := (f_X7_copy 10 o.2.2.2.2.2.1 10 d.2.2.2.2.2.1); (let u_12 : (Nat → Int32) := (f_X7_copy 10 o.2.2.2.2.2.2 10 d.2.2.2.2.2.2); (o.1, u_2, u_4, u_6, u_8, u_10, u_12))))))) := rfl
  refine lv_aload_n hx hb dX0_copyFrom_0 rfl (lv_at hl 1 rfl) ?_
  refine lv_ifnonnull (tgt := 5) hx hb dX0_copyFrom_1 (by decide) ?_
  refine lv_aload_n hx hb dX0_copyFrom_5 rfl (lv_at hl 0 rfl) ?_
  refine lv_aload_n hx hb dX0_copyFrom_6 rfl (lv_at hl 1 rfl) ?_
  refine va_get (D := G.1) (ci := 4) (v := .int o.1) (C := RX0) (T := TX0) (N := 7) hx hb hts uws_X0 hown hK hP 7 rfl rfl 0 (by decide) (hts _ u_1001) (fun _ h9 => h9) rfl dX0_copyFrom_7 ?_
  refine va_put (D := G.1) (ci := 4) (v := .int o.1) (ty := .int) (C := RX0) (T := TX0) (N := 7) hx hb hts uws_X0 tyX0 tyX0_ok nmX0 hown hK hP hD hS 0 rfl rfl 0 (by decide) (hts _ u_1001) (fun _ h9 => h9) rfl (by decide +kernel) rfl rfl (Nat.le_of_ble_eq_true rfl) dX0_copyFrom_10 (fun H locs hP hD hS => ?_)
  have hP : va_P G.1 vwCl (fl [wAu G dh0 dh1 dh2 dh3 dh4 dh5 dh6 (o.1, d.2.1, d.2.2.1, d.2.2.2.1, d.2.2.2.2.1, d.2.2.2.2.2.1, d.2.2.2.2.2.2), wAu G oh0 oh1 oh2 oh3 oh4 oh5 oh6 o]) H := hP
  have hD : va_D A (fl [wAu G dh0 dh1 dh2 dh3 dh4 dh5 dh6 (o.1, d.2.1, d.2.2.1, d.2.2.2.1, d.2.2.2.2.1, d.2.2.2.2.2.1, d.2.2.2.2.2.2), wAu G oh0 oh1 oh2 oh3 oh4 oh5 oh6 o]) := hD
  refine lv_aload_n hx hb dX0_copyFrom_13 rfl (lv_at hl 1 rfl) ?_
  refine va_get (D := G.1) (ci := 4) (v := .ref oh1) (C := RX0) (T := TX0) (N := 7) hx hb hts uws_X0 hown hK hP 7 rfl rfl 1 (by decide) (hts _ u_1003) (fun _ h9 => h9) rfl dX0_copyFrom_14 ?_
  refine lv_aload_n hx hb dX0_copyFrom_17 rfl (lv_at hl 0 rfl) ?_
  refine va_get (D := G.1) (ci := 4) (v := .ref dh1) (C := RX0) (T := TX0) (N := 7) hx hb hts uws_X0 hown hK hP 0 rfl rfl 1 (by decide) (hts _ u_1003) (fun _ h9 => h9) rfl dX0_copyFrom_18 ?_
  have hP : va_P G.1 vwCl (fl [wAu G dh0 dh1 dh2 dh3 dh4 dh5 dh6 (o.1, d.2.1, d.2.2.1, d.2.2.2.1, d.2.2.2.2.1, d.2.2.2.2.2.1, d.2.2.2.2.2.2), [(oh0, .inr (4, [.int o.1, .ref oh1, .ref oh2, .ref oh3, .ref oh4, .ref oh5, .ref oh6]))], [cArr G oh1 64 o.2.1], [cArr G oh2 64 o.2.2.1], [cArr G oh3 5 o.2.2.2.1], [cArr G oh4 10 o.2.2.2.2.1], [cArr G oh5 10 o.2.2.2.2.2.1], [cArr G oh6 10 o.2.2.2.2.2.2]]) H := hP
  have hD : va_D A (fl [wAu G dh0 dh1 dh2 dh3 dh4 dh5 dh6 (o.1, d.2.1, d.2.2.1, d.2.2.2.1, d.2.2.2.2.1, d.2.2.2.2.2.1, d.2.2.2.2.2.2), [(oh0, .inr (4, [.int o.1, .ref oh1, .ref oh2, .ref oh3, .ref oh4, .ref oh5, .ref oh6]))], [cArr G oh1 64 o.2.1], [cArr G oh2 64 o.2.2.1], [cArr G oh3 5 o.2.2.2.1], [cArr G oh4 10 o.2.2.2.2.1], [cArr G oh5 10 o.2.2.2.2.2.1], [cArr G oh6 10 o.2.2.2.2.2.2]]) := hD
  have hP : va_P G.1 vwCl (fl [[(dh0, .inr (4, [.int o.1, .ref dh1, .ref dh2, .ref dh3, .ref dh4, .ref dh5, .ref dh6]))], [cArr G dh1 64 d.2.1], [cArr G dh2 64 d.2.2.1], [cArr G dh3 5 d.2.2.2.1], [cArr G dh4 10 d.2.2.2.2.1], [cArr G dh5 10 d.2.2.2.2.2.1], [cArr G dh6 10 d.2.2.2.2.2.2], [(oh0, .inr (4, [.int o.1, .ref oh1, .ref oh2, .ref oh3, .ref oh4, .ref oh5, .ref oh6]))], [cArr G oh1 64 o.2.1], [cArr G oh2 64 o.2.2.1], [cArr G oh3 5 o.2.2.2.1], [cArr G oh4 10 o.2.2.2.2.1], [cArr G oh5 10 o.2.2.2.2.2.1], [cArr G oh6 10 o.2.2.2.2.2.2]]) H := hP
  have hD : va_D A (fl [[(dh0, .inr (4, [.int o.1, .ref dh1, .ref dh2, .ref dh3, .ref dh4, .ref dh5, .ref dh6]))], [cArr G dh1 64 d.2.1], [cArr G dh2 64 d.2.2.1], [cArr G dh3 5 d.2.2.2.1], [cArr G dh4 10 d.2.2.2.2.1], [cArr G dh5 10 d.2.2.2.2.2.1], [cArr G dh6 10 d.2.2.2.2.2.2], [(oh0, .inr (4, [.int o.1, .ref oh1, .ref oh2, .ref oh3, .ref oh4, .ref oh5, .ref oh6]))], [cArr G oh1 64 o.2.1], [cArr G oh2 64 o.2.2.1], [cArr G oh3 5 o.2.2.2.1], [cArr G oh4 10 o.2.2.2.2.1], [cArr G oh5 10 o.2.2.2.2.2.1], [cArr G oh6 10 o.2.2.2.2.2.2]]) := hD
  refine w_S (own := RX0) (cs := [[cArr G oh1 64 o.2.1], [cArr G dh1 64 d.2.1]]) (rs := [[(dh0, .inr (4, [.int o.1, .ref dh1, .ref dh2, .ref dh3, .ref dh4, .ref dh5, .ref dh6]))], [cArr G dh2 64 d.2.2.1], [cArr G dh3 5 d.2.2.2.1], [cArr G dh4 10 d.2.2.2.2.1], [cArr G dh5 10 d.2.2.2.2.2.1], [cArr G dh6 10 d.2.2.2.2.2.2], [(oh0, .inr (4, [.int o.1, .ref oh1, .ref oh2, .ref oh3, .ref oh4, .ref oh5, .ref oh6]))], [cArr G oh2 64 o.2.2.1], [cArr G oh3 5 o.2.2.2.1], [cArr G oh4 10 o.2.2.2.2.1], [cArr G oh5 10 o.2.2.2.2.2.1], [cArr G oh6 10 o.2.2.2.2.2.2]]) (As := [.ref oh1, .ref dh1]) (rest := []) (c_X7_copy l G oh1 dh1 H.size 64 o.2.1 64 d.2.1 (by decide) (by decide)) ⟨hx, hb, hml, hown, hts⟩ g_X0_61 hds_X7_copy hK hST hS hP hD hA [8, 1] [0, 2, 3, 4, 5, 6, 7, 9, 10, 11, 12, 13] rfl rfl rfl ⟨Nat.le_of_ble_eq_true rfl, Nat.le_of_ble_eq_true rfl⟩ ⟨Nat.le_of_ble_eq_true rfl, Nat.le_of_ble_eq_true rfl⟩ rfl hl.1 rfl (Nat.le_of_ble_eq_true rfl) dX0_copyFrom_21 (fun u_2 H locs huu hP hD hS => ?_)
  have eu_2 := huu
  have hP : va_P G.1 vwCl (fl [[cArr G oh1 64 o.2.1], [cArr G dh1 64 u_2], [(dh0, .inr (4, [.int o.1, .ref dh1, .ref dh2, .ref dh3, .ref dh4, .ref dh5, .ref dh6]))], [cArr G dh2 64 d.2.2.1], [cArr G dh3 5 d.2.2.2.1], [cArr G dh4 10 d.2.2.2.2.1], [cArr G dh5 10 d.2.2.2.2.2.1], [cArr G dh6 10 d.2.2.2.2.2.2], [(oh0, .inr (4, [.int o.1, .ref oh1, .ref oh2, .ref oh3, .ref oh4, .ref oh5, .ref oh6]))], [cArr G oh2 64 o.2.2.1], [cArr G oh3 5 o.2.2.2.1], [cArr G oh4 10 o.2.2.2.2.1], [cArr G oh5 10 o.2.2.2.2.2.1], [cArr G oh6 10 o.2.2.2.2.2.2]]) H := hP
  have hD : va_D A (fl [[cArr G oh1 64 o.2.1], [cArr G dh1 64 u_2], [(dh0, .inr (4, [.int o.1, .ref dh1, .ref dh2, .ref dh3, .ref dh4, .ref dh5, .ref dh6]))], [cArr G dh2 64 d.2.2.1], [cArr G dh3 5 d.2.2.2.1], [cArr G dh4 10 d.2.2.2.2.1], [cArr G dh5 10 d.2.2.2.2.2.1], [cArr G dh6 10 d.2.2.2.2.2.2], [(oh0, .inr (4, [.int o.1, .ref oh1, .ref oh2, .ref oh3, .ref oh4, .ref oh5, .ref oh6]))], [cArr G oh2 64 o.2.2.1], [cArr G oh3 5 o.2.2.2.1], [cArr G oh4 10 o.2.2.2.2.1], [cArr G oh5 10 o.2.2.2.2.2.1], [cArr G oh6 10 o.2.2.2.2.2.2]]) := hD
  refine W.eq (g2 := F0 m 24 ls []) rfl ?_
  have hF : f_X0_copyFrom d o = (let u_4 : (Nat → Int32) := (f_X7_copy 64 o.2.2.1 64 d.2.2.1); (let u_6 : (Nat → Int32) := (f_X7_copy 5 o.2.2.2.1 5 d.2.2.2.1); (let u_8 : (Nat → Int32) := (f_X7_copy 10 o.2.2.2.2.1 10 d.2.2.2.2.1); (let u_10 : (Nat → Int32) := (f_X7_copy 10 o.2.2.2.2.2.1 10 d.2.2.2.2.2.1); (let u_12 : (Nat → Int32) := (f_X7_copy 10 o.2.2.2.2.2.2 10 d.2.2.2.2.2.2); (o.1, u_2, u_4, u_6, u_8, u_10, u_12)))))) := by subst eu_2; exact hF
  refine lv_aload_n hx hb dX0_copyFrom_24 rfl (lv_at hl 1 rfl) ?_
  refine va_get (D := G.1) (ci := 4) (v := .ref oh2) (C := RX0) (T := TX0) (N := 7) hx hb hts uws_X0 hown hK hP 8 rfl rfl 2 (by decide) (hts _ u_1004) (fun _ h9 => h9) rfl dX0_copyFrom_25 ?_
  refine lv_aload_n hx hb dX0_copyFrom_28 rfl (lv_at hl 0 rfl) ?_
  refine va_get (D := G.1) (ci := 4) (v := .ref dh2) (C := RX0) (T := TX0) (N := 7) hx hb hts uws_X0 hown hK hP 2 rfl rfl 2 (by decide) (hts _ u_1004) (fun _ h9 => h9) rfl dX0_copyFrom_29 ?_
  refine w_S (own := RX0) (cs := [[cArr G oh2 64 o.2.2.1], [cArr G dh2 64 d.2.2.1]]) (rs := [[cArr G oh1 64 o.2.1], [cArr G dh1 64 u_2], [(dh0, .inr (4, [.int o.1, .ref dh1, .ref dh2, .ref dh3, .ref dh4, .ref dh5, .ref dh6]))], [cArr G dh3 5 d.2.2.2.1], [cArr G dh4 10 d.2.2.2.2.1], [cArr G dh5 10 d.2.2.2.2.2.1], [cArr G dh6 10 d.2.2.2.2.2.2], [(oh0, .inr (4, [.int o.1, .ref oh1, .ref oh2, .ref oh3, .ref oh4, .ref oh5, .ref oh6]))], [cArr G oh3 5 o.2.2.2.1], [cArr G oh4 10 o.2.2.2.2.1], [cArr G oh5 10 o.2.2.2.2.2.1], [cArr G oh6 10 o.2.2.2.2.2.2]]) (As := [.ref oh2, .ref dh2]) (rest := []) (c_X7_copy l G oh2 dh2 H.size 64 o.2.2.1 64 d.2.2.1 (by decide) (by decide)) ⟨hx, hb, hml, hown, hts⟩ g_X0_61 hds_X7_copy hK hST hS hP hD hA [9, 3] [0, 1, 2, 4, 5, 6, 7, 8, 10, 11, 12, 13] rfl rfl rfl ⟨Nat.le_of_ble_eq_true rfl, Nat.le_of_ble_eq_true rfl⟩ ⟨Nat.le_of_ble_eq_true rfl, Nat.le_of_ble_eq_true rfl⟩ rfl hl.1 rfl (Nat.le_of_ble_eq_true rfl) dX0_copyFrom_32 (fun u_4 H locs huu hP hD hS => ?_)
  have eu_4 := huu
  have hP : va_P G.1 vwCl (fl [[cArr G oh2 64 o.2.2.1], [cArr G dh2 64 u_4], [cArr G oh1 64 o.2.1], [cArr G dh1 64 u_2], [(dh0, .inr (4, [.int o.1, .ref dh1, .ref dh2, .ref dh3, .ref dh4, .ref dh5, .ref dh6]))], [cArr G dh3 5 d.2.2.2.1], [cArr G dh4 10 d.2.2.2.2.1], [cArr G dh5 10 d.2.2.2.2.2.1], [cArr G dh6 10 d.2.2.2.2.2.2], [(oh0, .inr (4, [.int o.1, .ref oh1, .ref oh2, .ref oh3, .ref oh4, .ref oh5, .ref oh6]))], [cArr G oh3 5 o.2.2.2.1], [cArr G oh4 10 o.2.2.2.2.1], [cArr G oh5 10 o.2.2.2.2.2.1], [cArr G oh6 10 o.2.2.2.2.2.2]]) H := hP
  have hD : va_D A (fl [[cArr G oh2 64 o.2.2.1], [cArr G dh2 64 u_4], [cArr G oh1 64 o.2.1], [cArr G dh1 64 u_2], [(dh0, .inr (4, [.int o.1, .ref dh1, .ref dh2, .ref dh3, .ref dh4, .ref dh5, .ref dh6]))], [cArr G dh3 5 d.2.2.2.1], [cArr G dh4 10 d.2.2.2.2.1], [cArr G dh5 10 d.2.2.2.2.2.1], [cArr G dh6 10 d.2.2.2.2.2.2], [(oh0, .inr (4, [.int o.1, .ref oh1, .ref oh2, .ref oh3, .ref oh4, .ref oh5, .ref oh6]))], [cArr G oh3 5 o.2.2.2.1], [cArr G oh4 10 o.2.2.2.2.1], [cArr G oh5 10 o.2.2.2.2.2.1], [cArr G oh6 10 o.2.2.2.2.2.2]]) := hD
  refine W.eq (g2 := F0 m 35 ls []) rfl ?_
  have hF : f_X0_copyFrom d o = (let u_6 : (Nat → Int32) := (f_X7_copy 5 o.2.2.2.1 5 d.2.2.2.1); (let u_8 : (Nat → Int32) := (f_X7_copy 10 o.2.2.2.2.1 10 d.2.2.2.2.1); (let u_10 : (Nat → Int32) := (f_X7_copy 10 o.2.2.2.2.2.1 10 d.2.2.2.2.2.1); (let u_12 : (Nat → Int32) := (f_X7_copy 10 o.2.2.2.2.2.2 10 d.2.2.2.2.2.2); (o.1, u_2, u_4, u_6, u_8, u_10, u_12))))) := by subst eu_4; exact hF
  refine lv_aload_n hx hb dX0_copyFrom_35 rfl (lv_at hl 1 rfl) ?_
  refine va_get (D := G.1) (ci := 4) (v := .ref oh3) (C := RX0) (T := TX0) (N := 7) hx hb hts uws_X0 hown hK hP 9 rfl rfl 3 (by decide) (hts _ u_1005) (fun _ h9 => h9) rfl dX0_copyFrom_36 ?_
  refine lv_aload_n hx hb dX0_copyFrom_39 rfl (lv_at hl 0 rfl) ?_
  refine va_get (D := G.1) (ci := 4) (v := .ref dh3) (C := RX0) (T := TX0) (N := 7) hx hb hts uws_X0 hown hK hP 4 rfl rfl 3 (by decide) (hts _ u_1005) (fun _ h9 => h9) rfl dX0_copyFrom_40 ?_
  refine w_S (own := RX0) (cs := [[cArr G oh3 5 o.2.2.2.1], [cArr G dh3 5 d.2.2.2.1]]) (rs := [[cArr G oh2 64 o.2.2.1], [cArr G dh2 64 u_4], [cArr G oh1 64 o.2.1], [cArr G dh1 64 u_2], [(dh0, .inr (4, [.int o.1, .ref dh1, .ref dh2, .ref dh3, .ref dh4, .ref dh5, .ref dh6]))], [cArr G dh4 10 d.2.2.2.2.1], [cArr G dh5 10 d.2.2.2.2.2.1], [cArr G dh6 10 d.2.2.2.2.2.2], [(oh0, .inr (4, [.int o.1, .ref oh1, .ref oh2, .ref oh3, .ref oh4, .ref oh5, .ref oh6]))], [cArr G oh4 10 o.2.2.2.2.1], [cArr G oh5 10 o.2.2.2.2.2.1], [cArr G oh6 10 o.2.2.2.2.2.2]]) (As := [.ref oh3, .ref dh3]) (rest := []) (c_X7_copy l G oh3 dh3 H.size 5 o.2.2.2.1 5 d.2.2.2.1 (by decide) (by decide)) ⟨hx, hb, hml, hown, hts⟩ g_X0_61 hds_X7_copy hK hST hS hP hD hA [10, 5] [0, 1, 2, 3, 4, 6, 7, 8, 9, 11, 12, 13] rfl rfl rfl ⟨Nat.le_of_ble_eq_true rfl, Nat.le_of_ble_eq_true rfl⟩ ⟨Nat.le_of_ble_eq_true rfl, Nat.le_of_ble_eq_true rfl⟩ rfl hl.1 rfl (Nat.le_of_ble_eq_true rfl) dX0_copyFrom_43 (fun u_6 H locs huu hP hD hS => ?_)
  have eu_6 := huu
  have hP : va_P G.1 vwCl (fl [[cArr G oh3 5 o.2.2.2.1], [cArr G dh3 5 u_6], [cArr G oh2 64 o.2.2.1], [cArr G dh2 64 u_4], [cArr G oh1 64 o.2.1], [cArr G dh1 64 u_2], [(dh0, .inr (4, [.int o.1, .ref dh1, .ref dh2, .ref dh3, .ref dh4, .ref dh5, .ref dh6]))], [cArr G dh4 10 d.2.2.2.2.1], [cArr G dh5 10 d.2.2.2.2.2.1], [cArr G dh6 10 d.2.2.2.2.2.2], [(oh0, .inr (4, [.int o.1, .ref oh1, .ref oh2, .ref oh3, .ref oh4, .ref oh5, .ref oh6]))], [cArr G oh4 10 o.2.2.2.2.1], [cArr G oh5 10 o.2.2.2.2.2.1], [cArr G oh6 10 o.2.2.2.2.2.2]]) H := hP
  have hD : va_D A (fl [[cArr G oh3 5 o.2.2.2.1], [cArr G dh3 5 u_6], [cArr G oh2 64 o.2.2.1], [cArr G dh2 64 u_4], [cArr G oh1 64 o.2.1], [cArr G dh1 64 u_2], [(dh0, .inr (4, [.int o.1, .ref dh1, .ref dh2, .ref dh3, .ref dh4, .ref dh5, .ref dh6]))], [cArr G dh4 10 d.2.2.2.2.1], [cArr G dh5 10 d.2.2.2.2.2.1], [cArr G dh6 10 d.2.2.2.2.2.2], [(oh0, .inr (4, [.int o.1, .ref oh1, .ref oh2, .ref oh3, .ref oh4, .ref oh5, .ref oh6]))], [cArr G oh4 10 o.2.2.2.2.1], [cArr G oh5 10 o.2.2.2.2.2.1], [cArr G oh6 10 o.2.2.2.2.2.2]]) := hD
  refine W.eq (g2 := F0 m 46 ls []) rfl ?_
  have hF : f_X0_copyFrom d o = (let u_8 : (Nat → Int32) := (f_X7_copy 10 o.2.2.2.2.1 10 d.2.2.2.2.1); (let u_10 : (Nat → Int32) := (f_X7_copy 10 o.2.2.2.2.2.1 10 d.2.2.2.2.2.1); (let u_12 : (Nat → Int32) := (f_X7_copy 10 o.2.2.2.2.2.2 10 d.2.2.2.2.2.2); (o.1, u_2, u_4, u_6, u_8, u_10, u_12)))) := by subst eu_6; exact hF
  refine lv_aload_n hx hb dX0_copyFrom_46 rfl (lv_at hl 1 rfl) ?_
  refine va_get (D := G.1) (ci := 4) (v := .ref oh4) (C := RX0) (T := TX0) (N := 7) hx hb hts uws_X0 hown hK hP 10 rfl rfl 4 (by decide) (hts _ u_1006) (fun _ h9 => h9) rfl dX0_copyFrom_47 ?_
  refine lv_aload_n hx hb dX0_copyFrom_50 rfl (lv_at hl 0 rfl) ?_
  refine va_get (D := G.1) (ci := 4) (v := .ref dh4) (C := RX0) (T := TX0) (N := 7) hx hb hts uws_X0 hown hK hP 6 rfl rfl 4 (by decide) (hts _ u_1006) (fun _ h9 => h9) rfl dX0_copyFrom_51 ?_
  refine w_S (own := RX0) (cs := [[cArr G oh4 10 o.2.2.2.2.1], [cArr G dh4 10 d.2.2.2.2.1]]) (rs := [[cArr G oh3 5 o.2.2.2.1], [cArr G dh3 5 u_6], [cArr G oh2 64 o.2.2.1], [cArr G dh2 64 u_4], [cArr G oh1 64 o.2.1], [cArr G dh1 64 u_2], [(dh0, .inr (4, [.int o.1, .ref dh1, .ref dh2, .ref dh3, .ref dh4, .ref dh5, .ref dh6]))], [cArr G dh5 10 d.2.2.2.2.2.1], [cArr G dh6 10 d.2.2.2.2.2.2], [(oh0, .inr (4, [.int o.1, .ref oh1, .ref oh2, .ref oh3, .ref oh4, .ref oh5, .ref oh6]))], [cArr G oh5 10 o.2.2.2.2.2.1], [cArr G oh6 10 o.2.2.2.2.2.2]]) (As := [.ref oh4, .ref dh4]) (rest := []) (c_X7_copy l G oh4 dh4 H.size 10 o.2.2.2.2.1 10 d.2.2.2.2.1 (by decide) (by decide)) ⟨hx, hb, hml, hown, hts⟩ g_X0_61 hds_X7_copy hK hST hS hP hD hA [11, 7] [0, 1, 2, 3, 4, 5, 6, 8, 9, 10, 12, 13] rfl rfl rfl ⟨Nat.le_of_ble_eq_true rfl, Nat.le_of_ble_eq_true rfl⟩ ⟨Nat.le_of_ble_eq_true rfl, Nat.le_of_ble_eq_true rfl⟩ rfl hl.1 rfl (Nat.le_of_ble_eq_true rfl) dX0_copyFrom_54 (fun u_8 H locs huu hP hD hS => ?_)
  have eu_8 := huu
  have hP : va_P G.1 vwCl (fl [[cArr G oh4 10 o.2.2.2.2.1], [cArr G dh4 10 u_8], [cArr G oh3 5 o.2.2.2.1], [cArr G dh3 5 u_6], [cArr G oh2 64 o.2.2.1], [cArr G dh2 64 u_4], [cArr G oh1 64 o.2.1], [cArr G dh1 64 u_2], [(dh0, .inr (4, [.int o.1, .ref dh1, .ref dh2, .ref dh3, .ref dh4, .ref dh5, .ref dh6]))], [cArr G dh5 10 d.2.2.2.2.2.1], [cArr G dh6 10 d.2.2.2.2.2.2], [(oh0, .inr (4, [.int o.1, .ref oh1, .ref oh2, .ref oh3, .ref oh4, .ref oh5, .ref oh6]))], [cArr G oh5 10 o.2.2.2.2.2.1], [cArr G oh6 10 o.2.2.2.2.2.2]]) H := hP
  have hD : va_D A (fl [[cArr G oh4 10 o.2.2.2.2.1], [cArr G dh4 10 u_8], [cArr G oh3 5 o.2.2.2.1], [cArr G dh3 5 u_6], [cArr G oh2 64 o.2.2.1], [cArr G dh2 64 u_4], [cArr G oh1 64 o.2.1], [cArr G dh1 64 u_2], [(dh0, .inr (4, [.int o.1, .ref dh1, .ref dh2, .ref dh3, .ref dh4, .ref dh5, .ref dh6]))], [cArr G dh5 10 d.2.2.2.2.2.1], [cArr G dh6 10 d.2.2.2.2.2.2], [(oh0, .inr (4, [.int o.1, .ref oh1, .ref oh2, .ref oh3, .ref oh4, .ref oh5, .ref oh6]))], [cArr G oh5 10 o.2.2.2.2.2.1], [cArr G oh6 10 o.2.2.2.2.2.2]]) := hD
  refine W.eq (g2 := F0 m 57 ls []) rfl ?_
  have hF : f_X0_copyFrom d o = (let u_10 : (Nat → Int32) := (f_X7_copy 10 o.2.2.2.2.2.1 10 d.2.2.2.2.2.1); (let u_12 : (Nat → Int32) := (f_X7_copy 10 o.2.2.2.2.2.2 10 d.2.2.2.2.2.2); (o.1, u_2, u_4, u_6, u_8, u_10, u_12))) := by subst eu_8; exact hF
  refine lv_aload_n hx hb dX0_copyFrom_57 rfl (lv_at hl 1 rfl) ?_
  refine va_get (D := G.1) (ci := 4) (v := .ref oh5) (C := RX0) (T := TX0) (N := 7) hx hb hts uws_X0 hown hK hP 11 rfl rfl 5 (by decide) (hts _ u_1007) (fun _ h9 => h9) rfl dX0_copyFrom_58 ?_
  refine lv_aload_n hx hb dX0_copyFrom_61 rfl (lv_at hl 0 rfl) ?_
  refine va_get (D := G.1) (ci := 4) (v := .ref dh5) (C := RX0) (T := TX0) (N := 7) hx hb hts uws_X0 hown hK hP 8 rfl rfl 5 (by decide) (hts _ u_1007) (fun _ h9 => h9) rfl dX0_copyFrom_62 ?_
  refine w_S (own := RX0) (cs := [[cArr G oh5 10 o.2.2.2.2.2.1], [cArr G dh5 10 d.2.2.2.2.2.1]]) (rs := [[cArr G oh4 10 o.2.2.2.2.1], [cArr G dh4 10 u_8], [cArr G oh3 5 o.2.2.2.1], [cArr G dh3 5 u_6], [cArr G oh2 64 o.2.2.1], [cArr G dh2 64 u_4], [cArr G oh1 64 o.2.1], [cArr G dh1 64 u_2], [(dh0, .inr (4, [.int o.1, .ref dh1, .ref dh2, .ref dh3, .ref dh4, .ref dh5, .ref dh6]))], [cArr G dh6 10 d.2.2.2.2.2.2], [(oh0, .inr (4, [.int o.1, .ref oh1, .ref oh2, .ref oh3, .ref oh4, .ref oh5, .ref oh6]))], [cArr G oh6 10 o.2.2.2.2.2.2]]) (As := [.ref oh5, .ref dh5]) (rest := []) (c_X7_copy l G oh5 dh5 H.size 10 o.2.2.2.2.2.1 10 d.2.2.2.2.2.1 (by decide) (by decide)) ⟨hx, hb, hml, hown, hts⟩ g_X0_61 hds_X7_copy hK hST hS hP hD hA [12, 9] [0, 1, 2, 3, 4, 5, 6, 7, 8, 10, 11, 13] rfl rfl rfl ⟨Nat.le_of_ble_eq_true rfl, Nat.le_of_ble_eq_true rfl⟩ ⟨Nat.le_of_ble_eq_true rfl, Nat.le_of_ble_eq_true rfl⟩ rfl hl.1 rfl (Nat.le_of_ble_eq_true rfl) dX0_copyFrom_65 (fun u_10 H locs huu hP hD hS => ?_)
  have eu_10 := huu
  have hP : va_P G.1 vwCl (fl [[cArr G oh5 10 o.2.2.2.2.2.1], [cArr G dh5 10 u_10], [cArr G oh4 10 o.2.2.2.2.1], [cArr G dh4 10 u_8], [cArr G oh3 5 o.2.2.2.1], [cArr G dh3 5 u_6], [cArr G oh2 64 o.2.2.1], [cArr G dh2 64 u_4], [cArr G oh1 64 o.2.1], [cArr G dh1 64 u_2], [(dh0, .inr (4, [.int o.1, .ref dh1, .ref dh2, .ref dh3, .ref dh4, .ref dh5, .ref dh6]))], [cArr G dh6 10 d.2.2.2.2.2.2], [(oh0, .inr (4, [.int o.1, .ref oh1, .ref oh2, .ref oh3, .ref oh4, .ref oh5, .ref oh6]))], [cArr G oh6 10 o.2.2.2.2.2.2]]) H := hP
  have hD : va_D A (fl [[cArr G oh5 10 o.2.2.2.2.2.1], [cArr G dh5 10 u_10], [cArr G oh4 10 o.2.2.2.2.1], [cArr G dh4 10 u_8], [cArr G oh3 5 o.2.2.2.1], [cArr G dh3 5 u_6], [cArr G oh2 64 o.2.2.1], [cArr G dh2 64 u_4], [cArr G oh1 64 o.2.1], [cArr G dh1 64 u_2], [(dh0, .inr (4, [.int o.1, .ref dh1, .ref dh2, .ref dh3, .ref dh4, .ref dh5, .ref dh6]))], [cArr G dh6 10 d.2.2.2.2.2.2], [(oh0, .inr (4, [.int o.1, .ref oh1, .ref oh2, .ref oh3, .ref oh4, .ref oh5, .ref oh6]))], [cArr G oh6 10 o.2.2.2.2.2.2]]) := hD
  refine W.eq (g2 := F0 m 68 ls []) rfl ?_
  have hF : f_X0_copyFrom d o = (let u_12 : (Nat → Int32) := (f_X7_copy 10 o.2.2.2.2.2.2 10 d.2.2.2.2.2.2); (o.1, u_2, u_4, u_6, u_8, u_10, u_12)) := by subst eu_10; exact hF
  refine lv_aload_n hx hb dX0_copyFrom_68 rfl (lv_at hl 1 rfl) ?_
  refine va_get (D := G.1) (ci := 4) (v := .ref oh6) (C := RX0) (T := TX0) (N := 7) hx hb hts uws_X0 hown hK hP 12 rfl rfl 6 (by decide) (hts _ u_1008) (fun _ h9 => h9) rfl dX0_copyFrom_69 ?_
  refine lv_aload_n hx hb dX0_copyFrom_72 rfl (lv_at hl 0 rfl) ?_
  refine va_get (D := G.1) (ci := 4) (v := .ref dh6) (C := RX0) (T := TX0) (N := 7) hx hb hts uws_X0 hown hK hP 10 rfl rfl 6 (by decide) (hts _ u_1008) (fun _ h9 => h9) rfl dX0_copyFrom_73 ?_
  refine w_S (own := RX0) (cs := [[cArr G oh6 10 o.2.2.2.2.2.2], [cArr G dh6 10 d.2.2.2.2.2.2]]) (rs := [[cArr G oh5 10 o.2.2.2.2.2.1], [cArr G dh5 10 u_10], [cArr G oh4 10 o.2.2.2.2.1], [cArr G dh4 10 u_8], [cArr G oh3 5 o.2.2.2.1], [cArr G dh3 5 u_6], [cArr G oh2 64 o.2.2.1], [cArr G dh2 64 u_4], [cArr G oh1 64 o.2.1], [cArr G dh1 64 u_2], [(dh0, .inr (4, [.int o.1, .ref dh1, .ref dh2, .ref dh3, .ref dh4, .ref dh5, .ref dh6]))], [(oh0, .inr (4, [.int o.1, .ref oh1, .ref oh2, .ref oh3, .ref oh4, .ref oh5, .ref oh6]))]]) (As := [.ref oh6, .ref dh6]) (rest := []) (c_X7_copy l G oh6 dh6 H.size 10 o.2.2.2.2.2.2 10 d.2.2.2.2.2.2 (by decide) (by decide)) ⟨hx, hb, hml, hown, hts⟩ g_X0_61 hds_X7_copy hK hST hS hP hD hA [13, 11] [0, 1, 2, 3, 4, 5, 6, 7, 8, 9, 10, 12] rfl rfl rfl ⟨Nat.le_of_ble_eq_true rfl, Nat.le_of_ble_eq_true rfl⟩ ⟨Nat.le_of_ble_eq_true rfl, Nat.le_of_ble_eq_true rfl⟩ rfl hl.1 rfl (Nat.le_of_ble_eq_true rfl) dX0_copyFrom_76 (fun u_12 H locs huu hP hD hS => ?_)
  have eu_12 := huu
  have hP : va_P G.1 vwCl (fl [[cArr G oh6 10 o.2.2.2.2.2.2], [cArr G dh6 10 u_12], [cArr G oh5 10 o.2.2.2.2.2.1], [cArr G dh5 10 u_10], [cArr G oh4 10 o.2.2.2.2.1], [cArr G dh4 10 u_8], [cArr G oh3 5 o.2.2.2.1], [cArr G dh3 5 u_6], [cArr G oh2 64 o.2.2.1], [cArr G dh2 64 u_4], [cArr G oh1 64 o.2.1], [cArr G dh1 64 u_2], [(dh0, .inr (4, [.int o.1, .ref dh1, .ref dh2, .ref dh3, .ref dh4, .ref dh5, .ref dh6]))], [(oh0, .inr (4, [.int o.1, .ref oh1, .ref oh2, .ref oh3, .ref oh4, .ref oh5, .ref oh6]))]]) H := hP
  have hD : va_D A (fl [[cArr G oh6 10 o.2.2.2.2.2.2], [cArr G dh6 10 u_12], [cArr G oh5 10 o.2.2.2.2.2.1], [cArr G dh5 10 u_10], [cArr G oh4 10 o.2.2.2.2.1], [cArr G dh4 10 u_8], [cArr G oh3 5 o.2.2.2.1], [cArr G dh3 5 u_6], [cArr G oh2 64 o.2.2.1], [cArr G dh2 64 u_4], [cArr G oh1 64 o.2.1], [cArr G dh1 64 u_2], [(dh0, .inr (4, [.int o.1, .ref dh1, .ref dh2, .ref dh3, .ref dh4, .ref dh5, .ref dh6]))], [(oh0, .inr (4, [.int o.1, .ref oh1, .ref oh2, .ref oh3, .ref oh4, .ref oh5, .ref oh6]))]]) := hD
  refine W.eq (g2 := F0 m 79 ls []) rfl ?_
  have hF : f_X0_copyFrom d o = (o.1, u_2, u_4, u_6, u_8, u_10, u_12) := by subst eu_12; exact hF
  have hP := fl_sub (cs := [[(dh0, .inr (4, [.int o.1, .ref dh1, .ref dh2, .ref dh3, .ref dh4, .ref dh5, .ref dh6]))], [cArr G dh1 64 u_2], [cArr G dh2 64 u_4], [cArr G dh3 5 u_6], [cArr G dh4 10 u_8], [cArr G dh5 10 u_10], [cArr G dh6 10 u_12], [(oh0, .inr (4, [.int o.1, .ref oh1, .ref oh2, .ref oh3, .ref oh4, .ref oh5, .ref oh6]))], [cArr G oh1 64 o.2.1], [cArr G oh2 64 o.2.2.1], [cArr G oh3 5 o.2.2.2.1], [cArr G oh4 10 o.2.2.2.2.1], [cArr G oh5 10 o.2.2.2.2.2.1], [cArr G oh6 10 o.2.2.2.2.2.2]]) [12, 11, 9, 7, 5, 3, 1, 13, 10, 8, 6, 4, 2, 0] rfl hP
  have hD := fl_subD (cs := [[(dh0, .inr (4, [.int o.1, .ref dh1, .ref dh2, .ref dh3, .ref dh4, .ref dh5, .ref dh6]))], [cArr G dh1 64 u_2], [cArr G dh2 64 u_4], [cArr G dh3 5 u_6], [cArr G dh4 10 u_8], [cArr G dh5 10 u_10], [cArr G dh6 10 u_12], [(oh0, .inr (4, [.int o.1, .ref oh1, .ref oh2, .ref oh3, .ref oh4, .ref oh5, .ref oh6]))], [cArr G oh1 64 o.2.1], [cArr G oh2 64 o.2.2.1], [cArr G oh3 5 o.2.2.2.1], [cArr G oh4 10 o.2.2.2.2.1], [cArr G oh5 10 o.2.2.2.2.2.1], [cArr G oh6 10 o.2.2.2.2.2.2]]) [12, 11, 9, 7, 5, 3, 1, 13, 10, 8, 6, 4, 2, 0] rfl rfl hD
  exact w_retV (u := (o.1, u_2, u_4, u_6, u_8, u_10, u_12)) hx hb hr hlk hS rfl hF.symm hP hD (Nat.le_of_ble_eq_true rfl) (Nat.le_of_ble_eq_true rfl) dX0_copyFrom_79
