theorem dX8_today_0 : decode cX8_today 0 = .ok (.aload_n 0, 1) := by decide +kernel
theorem dX8_today_1 : decode cX8_today 1 = .ok (.getfield 9, 3) := by decide +kernel
theorem uws_X8 : ∀ w ∈ wsX80, w ∈ UW := uw_all [1035, 1037, 1039, 1041, 1043, 1045] (by decide +kernel) (by decide +kernel)
theorem u_1024 : Cond.fieldLink RX8 9 "MoonlitDoors$State" "time" "I" ∈ UW := uw 1024 (by decide +kernel) rfl
theorem dX8_today_4 : decode cX8_today 4 = .ok (.bipush 24, 2) := by decide +kernel
theorem dX8_today_6 : decode cX8_today 6 = .ok (.invokestatic 88, 3) := by decide +kernel
theorem u_63 : Cond.methodLink RX8 88 yJ9_floorDiv_7cf53 ∈ UW := uw 63 (by decide +kernel) rfl
theorem u_64 : Cond.static yJ9_floorDiv_7cf53 ∈ UW := uw 64 (by decide +kernel) rfl
theorem u_65 : Cond.code yJ9_floorDiv_7cf53 cJ9_floorDiv_7cf53 3 (some .int) ∈ UW := uw 65 (by decide +kernel) rfl
theorem g_X8_88 : GoodIn UW (va_wsS RX8 88 yJ9_floorDiv_7cf53 (wsU yJ9_floorDiv_7cf53 cJ9_floorDiv_7cf53 3 (some .int))) := gS u_63 u_64 u_44 u_65
theorem hds_J9_floorDiv_7cf53 : yJ9_floorDiv_7cf53.cls ≠ "java/lang/invoke/MethodHandle" ∧ yJ9_floorDiv_7cf53.cls ≠ "java/lang/invoke/VarHandle" ∧ (parseMethodDescriptor yJ9_floorDiv_7cf53.desc).map (fun d => d.parameters.length) = some 2 := by decide +kernel
theorem dX8_today_9 : decode cX8_today 9 = .ok (.ireturn, 1) := by decide +kernel
def f_X8_today (v : StV) : Int32 := (f_J9_floorDiv_7cf53 v.1 (24 : Int32))
set_option maxHeartbeats 4000000 in
set_option maxRecDepth 100000 in
theorem c_X8_today (l : Launch) (G : GG) (va : Nat → Nat) (v : StV) : rMet l yX8_today cX8_today 1 (some .int) 2 G (fl [[((va 0), .inr (10, [.int v.1, .int v.2.1, .ref (va 1), .ref (va 6), .ref (va 10), .ref (va 13)]))], wDo G (va 1) (va 2) (va 3) (va 4) (va 5) v.2.2.1, wEx G (va 6) (va 7) (va 8) (va 9) v.2.2.2.1, wPe G (va 10) (va 11) (va 12) v.2.2.2.2.1, wAu G (va 13) (va 14) (va 15) (va 16) (va 17) (va 18) (va 19) v.2.2.2.2.2]) [.ref (va 0)] (some (.int (f_X8_today v))) (True) := by
  refine r_start (by decide +kernel) (Nat.le_of_ble_eq_true rfl) ?_
  intro p e s m below meth c hx hb hr hml hts hown hlk hP hK hST ls hl
  have hS : va_S (fun _ => False) s.heap s.heap [] := va_S.rf
  have hown : s.vm.findClass RX8 = some m.cls := hown
  have hl : lv_has ls 1 [(0, .ref (va 0))] := hl
  have hF : f_X8_today v = (f_J9_floorDiv_7cf53 v.1 (24 : Int32)) := rfl
  refine lv_aload_n hx hb dX8_today_0 rfl (lv_at hl 0 rfl) ?_
  refine va_get (D := G.1) (ci := 10) (v := .int v.1) (C := RX8) (T := TX8) (N := 6) hx hb hts uws_X8 hown hK hP 0 rfl rfl 0 (by decide) (hts _ u_1024) (fun _ h9 => h9) rfl dX8_today_1 ?_
  refine lv_bipush (v := (24 : Int32)) hx hb dX8_today_4 (by decide) ?_
  refine r_S (own := RX8) (v := (some (.int (f_J9_floorDiv_7cf53 v.1 (24 : Int32))))) (st1 := [.int (f_J9_floorDiv_7cf53 v.1 (24 : Int32))]) (As := [.int v.1, .int (24 : Int32)]) (rest := []) (c_J9_floorDiv_7cf53 l G v.1 (24 : Int32) (by decide)) ⟨hx, hb, hml, hown, hts⟩ g_X8_88 hds_J9_floorDiv_7cf53 hK hST hS hP [] rfl ⟨Nat.le_of_ble_eq_true rfl, Nat.le_of_ble_eq_true rfl⟩ ⟨Nat.le_of_ble_eq_true rfl, Nat.le_of_ble_eq_true rfl⟩ rfl hl.1 rfl (Nat.le_of_ble_eq_true rfl) dX8_today_6 rfl (fun b_1 => ?_)
  exact r_ret hx hb hr hlk rfl (by rw [hF]) trivial dX8_today_9
theorem dX8_hourNow_0 : decode cX8_hourNow 0 = .ok (.aload_n 0, 1) := by decide +kernel
theorem dX8_hourNow_1 : decode cX8_hourNow 1 = .ok (.getfield 9, 3) := by decide +kernel
theorem dX8_hourNow_4 : decode cX8_hourNow 4 = .ok (.bipush 24, 2) := by decide +kernel
theorem dX8_hourNow_6 : decode cX8_hourNow 6 = .ok (.invokestatic 93, 3) := by decide +kernel
theorem u_536 : Cond.methodLink RX8 93 yJ9_floorMod_7cf53 ∈ UW := uw 536 (by decide +kernel) rfl
theorem g_X8_93 : GoodIn UW (va_wsS RX8 93 yJ9_floorMod_7cf53 (wsU yJ9_floorMod_7cf53 cJ9_floorMod_7cf53 3 (some .int))) := gS u_536 u_537 u_44 u_538
theorem dX8_hourNow_9 : decode cX8_hourNow 9 = .ok (.ireturn, 1) := by decide +kernel
def f_X8_hourNow (v : StV) : Int32 := (f_J9_floorMod_7cf53 v.1 (24 : Int32))
set_option maxHeartbeats 4000000 in
set_option maxRecDepth 100000 in
theorem c_X8_hourNow (l : Launch) (G : GG) (va : Nat → Nat) (v : StV) : rMet l yX8_hourNow cX8_hourNow 1 (some .int) 2 G (fl [[((va 0), .inr (10, [.int v.1, .int v.2.1, .ref (va 1), .ref (va 6), .ref (va 10), .ref (va 13)]))], wDo G (va 1) (va 2) (va 3) (va 4) (va 5) v.2.2.1, wEx G (va 6) (va 7) (va 8) (va 9) v.2.2.2.1, wPe G (va 10) (va 11) (va 12) v.2.2.2.2.1, wAu G (va 13) (va 14) (va 15) (va 16) (va 17) (va 18) (va 19) v.2.2.2.2.2]) [.ref (va 0)] (some (.int (f_X8_hourNow v))) (True) := by
  refine r_start (by decide +kernel) (Nat.le_of_ble_eq_true rfl) ?_
  intro p e s m below meth c hx hb hr hml hts hown hlk hP hK hST ls hl
  have hS : va_S (fun _ => False) s.heap s.heap [] := va_S.rf
  have hown : s.vm.findClass RX8 = some m.cls := hown
  have hl : lv_has ls 1 [(0, .ref (va 0))] := hl
  have hF : f_X8_hourNow v = (f_J9_floorMod_7cf53 v.1 (24 : Int32)) := rfl
  refine lv_aload_n hx hb dX8_hourNow_0 rfl (lv_at hl 0 rfl) ?_
  refine va_get (D := G.1) (ci := 10) (v := .int v.1) (C := RX8) (T := TX8) (N := 6) hx hb hts uws_X8 hown hK hP 0 rfl rfl 0 (by decide) (hts _ u_1024) (fun _ h9 => h9) rfl dX8_hourNow_1 ?_
  refine lv_bipush (v := (24 : Int32)) hx hb dX8_hourNow_4 (by decide) ?_
  refine r_S (own := RX8) (v := (some (.int (f_J9_floorMod_7cf53 v.1 (24 : Int32))))) (st1 := [.int (f_J9_floorMod_7cf53 v.1 (24 : Int32))]) (As := [.int v.1, .int (24 : Int32)]) (rest := []) (c_J9_floorMod_7cf53 l G v.1 (24 : Int32) (by decide)) ⟨hx, hb, hml, hown, hts⟩ g_X8_93 hds_J9_floorMod_7cf53 hK hST hS hP [] rfl ⟨Nat.le_of_ble_eq_true rfl, Nat.le_of_ble_eq_true rfl⟩ ⟨Nat.le_of_ble_eq_true rfl, Nat.le_of_ble_eq_true rfl⟩ rfl hl.1 rfl (Nat.le_of_ble_eq_true rfl) dX8_hourNow_6 rfl (fun b_1 => ?_)
  exact r_ret hx hb hr hlk rfl (by rw [hF]) trivial dX8_hourNow_9
theorem dX8_faultOfNewDoor_0 : decode cX8_faultOfNewDoor 0 = .ok (.iload_n 1, 1) := by decide +kernel
theorem dX8_faultOfNewDoor_1 : decode cX8_faultOfNewDoor 1 = .ok (.iload_n 2, 1) := by decide +kernel
theorem dX8_faultOfNewDoor_2 : decode cX8_faultOfNewDoor 2 = .ok (.iload_n 3, 1) := by decide +kernel
theorem dX8_faultOfNewDoor_3 : decode cX8_faultOfNewDoor 3 = .ok (.iload 4, 2) := by decide +kernel
theorem dX8_faultOfNewDoor_5 : decode cX8_faultOfNewDoor 5 = .ok (.invokestatic 46, 3) := by decide +kernel
theorem u_1133 : Cond.methodLink RX8 46 yX2_faultOfRule ∈ UW := uw 1133 (by decide +kernel) rfl
theorem u_1134 : Cond.static yX2_faultOfRule ∈ UW := uw 1134 (by decide +kernel) rfl
theorem u_1135 : Cond.code yX2_faultOfRule cX2_faultOfRule 5 (some (.object "MoonlitDoors$Fault")) ∈ UW := uw 1135 (by decide +kernel) rfl
theorem g_X8_46 : GoodIn UW (va_wsS RX8 46 yX2_faultOfRule (wsU yX2_faultOfRule cX2_faultOfRule 5 (some (.object "MoonlitDoors$Fault")))) := gS u_1133 u_1134 u_23 u_1135
theorem hds_X2_faultOfRule : yX2_faultOfRule.cls ≠ "java/lang/invoke/MethodHandle" ∧ yX2_faultOfRule.cls ≠ "java/lang/invoke/VarHandle" ∧ (parseMethodDescriptor yX2_faultOfRule.desc).map (fun d => d.parameters.length) = some 4 := by decide +kernel
theorem dX8_faultOfNewDoor_8 : decode cX8_faultOfNewDoor 8 = .ok (.astore 5, 2) := by decide +kernel
theorem dX8_faultOfNewDoor_10 : decode cX8_faultOfNewDoor 10 = .ok (.aload 5, 2) := by decide +kernel
theorem dX8_faultOfNewDoor_12 : decode cX8_faultOfNewDoor 12 = .ok (.getstatic 50, 3) := by decide +kernel
theorem u_602 : Cond.fieldLink RX8 50 "MoonlitDoors$Fault" "NOTHING" "LMoonlitDoors$Fault;" ∈ UW := uw 602 (by decide +kernel) rfl
theorem dX8_faultOfNewDoor_15 : decode cX8_faultOfNewDoor 15 = .ok (.if_acmp .ne 19, 3) := by decide +kernel
theorem dX8_faultOfNewDoor_34 : decode cX8_faultOfNewDoor 34 = .ok (.aload 5, 2) := by decide +kernel
theorem dX8_faultOfNewDoor_36 : decode cX8_faultOfNewDoor 36 = .ok (.areturn, 1) := by decide +kernel
theorem dX8_faultOfNewDoor_18 : decode cX8_faultOfNewDoor 18 = .ok (.aload_n 0, 1) := by decide +kernel
theorem dX8_faultOfNewDoor_19 : decode cX8_faultOfNewDoor 19 = .ok (.getfield 21, 3) := by decide +kernel
theorem u_1027 : Cond.fieldLink RX8 21 "MoonlitDoors$State" "doors" "LMoonlitDoors$Doors;" ∈ UW := uw 1027 (by decide +kernel) rfl
theorem dX8_faultOfNewDoor_22 : decode cX8_faultOfNewDoor 22 = .ok (.getfield 56, 3) := by decide +kernel
theorem u_941 : Cond.fieldLink RX8 56 "MoonlitDoors$Doors" "count" "I" ∈ UW := uw 941 (by decide +kernel) rfl
theorem dX8_faultOfNewDoor_25 : decode cX8_faultOfNewDoor 25 = .ok (.bipush 8, 2) := by decide +kernel
theorem dX8_faultOfNewDoor_27 : decode cX8_faultOfNewDoor 27 = .ok (.if_icmp .lt 7, 3) := by decide +kernel
theorem dX8_faultOfNewDoor_30 : decode cX8_faultOfNewDoor 30 = .ok (.getstatic 59, 3) := by decide +kernel
theorem u_600 : Cond.fieldLink RX8 59 "MoonlitDoors$Fault" "STATE" "LMoonlitDoors$Fault;" ∈ UW := uw 600 (by decide +kernel) rfl
theorem dX8_faultOfNewDoor_33 : decode cX8_faultOfNewDoor 33 = .ok (.areturn, 1) := by decide +kernel
def f_X8_faultOfNewDoor (v : StV) (ph : Int32) (fh : Int32) (lh : Int32) (k : Int32) : Nat := (if (f_X2_faultOfRule ph fh lh k) = 0 then (if v.2.2.1.1 < (8 : Int32) then (f_X2_faultOfRule ph fh lh k) else 4) else (f_X2_faultOfRule ph fh lh k))
set_option maxHeartbeats 4000000 in
set_option maxRecDepth 100000 in
theorem c_X8_faultOfNewDoor (l : Launch) (G : GG) (va : Nat → Nat) (v : StV) (ph : Int32) (fh : Int32) (lh : Int32) (k : Int32) : rMet l yX8_faultOfNewDoor cX8_faultOfNewDoor 6 (some (.object "MoonlitDoors$Fault")) 2 G (fl [[((va 0), .inr (10, [.int v.1, .int v.2.1, .ref (va 1), .ref (va 6), .ref (va 10), .ref (va 13)]))], wDo G (va 1) (va 2) (va 3) (va 4) (va 5) v.2.2.1, wEx G (va 6) (va 7) (va 8) (va 9) v.2.2.2.1, wPe G (va 10) (va 11) (va 12) v.2.2.2.2.1, wAu G (va 13) (va 14) (va 15) (va 16) (va 17) (va 18) (va 19) v.2.2.2.2.2]) [.ref (va 0), .int ph, .int fh, .int lh, .int k] (some (.ref (G.2.2.1 (f_X8_faultOfNewDoor v ph fh lh k)))) ((f_X8_faultOfNewDoor v ph fh lh k) < 6) := by
  refine r_start (by decide +kernel) (Nat.le_of_ble_eq_true rfl) ?_
  intro p e s m below meth c hx hb hr hml hts hown hlk hP hK hST ls hl
  have hS : va_S (fun _ => False) s.heap s.heap [] := va_S.rf
  have hown : s.vm.findClass RX8 = some m.cls := hown
  have hl : lv_has ls 6 [(0, .ref (va 0)), (1, .int ph), (2, .int fh), (3, .int lh), (4, .int k)] := hl
  have hF : f_X8_faultOfNewDoor v ph fh lh k = (if (f_X2_faultOfRule ph fh lh k) = 0 then (if v.2.2.1.1 < (8 : Int32) then (f_X2_faultOfRule ph fh lh k) else 4) else (f_X2_faultOfRule ph fh lh k)) := rfl
  refine lv_iload_n hx hb dX8_faultOfNewDoor_0 rfl (lv_at hl 1 rfl) ?_
  refine lv_iload_n hx hb dX8_faultOfNewDoor_1 rfl (lv_at hl 2 rfl) ?_
  refine lv_iload_n hx hb dX8_faultOfNewDoor_2 rfl (lv_at hl 3 rfl) ?_
  refine lv_iload hx hb dX8_faultOfNewDoor_3 (lv_at hl 4 rfl) ?_
  refine r_S (own := RX8) (v := (some (.ref (G.2.2.1 (f_X2_faultOfRule ph fh lh k))))) (st1 := [.ref (G.2.2.1 (f_X2_faultOfRule ph fh lh k))]) (As := [.int ph, .int fh, .int lh, .int k]) (rest := []) (c_X2_faultOfRule l G ph fh lh k) ⟨hx, hb, hml, hown, hts⟩ g_X8_46 hds_X2_faultOfRule hK hST hS hP [] rfl ⟨Nat.le_of_ble_eq_true rfl, Nat.le_of_ble_eq_true rfl⟩ ⟨Nat.le_of_ble_eq_true rfl, Nat.le_of_ble_eq_true rfl⟩ rfl hl.1 rfl (Nat.le_of_ble_eq_true rfl) dX8_faultOfNewDoor_5 rfl (fun b_1 => ?_)
  refine lv_astore (lv' := [(5, .ref (G.2.2.1 (f_X2_faultOfRule ph fh lh k))), (0, .ref (va 0)), (1, .int ph), (2, .int fh), (3, .int lh), (4, .int k)]) hx hb dX8_faultOfNewDoor_8 hl (by decide) rfl (fun ls hl => ?_)
  refine lv_aload hx hb dX8_faultOfNewDoor_10 (lv_at hl 0 rfl) ?_
  refine va_gets (C := RX3) (n := "NOTHING") (d := "LMoonlitDoors$Fault;") hx hb (hST.1 0 (by decide)) hS hown (hts _ u_602) (fun _ h9 => h9) dX8_faultOfNewDoor_12 ?_
  refine lv_acmp_ne (rx := some (G.2.2.1 (f_X2_faultOfRule ph fh lh k))) (ry := some (G.2.2.1 0)) (tgt := 34) hx hb dX8_faultOfNewDoor_15 (by decide) (fun c_2 => ?_) (fun c_2 => ?_)
  · have c_2 : ¬ ((f_X2_faultOfRule ph fh lh k) = 0) := fun e => c_2 (by rw [e])
    have hF := hF.trans (if_neg c_2)
    refine lv_aload hx hb dX8_faultOfNewDoor_34 (lv_at hl 0 rfl) ?_
    exact r_retA hx hb hr hlk (Or.inl ⟨_, rfl⟩) (Or.inr ⟨_, rfl⟩) (by rw [hF]) (by rw [hF]; exact (b_1 : (f_X2_faultOfRule ph fh lh k) < 6)) dX8_faultOfNewDoor_36
  · have c_2 : (f_X2_faultOfRule ph fh lh k) = 0 := hST.2.1 _ _ b_1 (by decide) (Option.some.inj c_2)
    have hF := hF.trans (if_pos c_2)
    refine lv_aload_n hx hb dX8_faultOfNewDoor_18 rfl (lv_at hl 1 rfl) ?_
    refine va_get (D := G.1) (ci := 10) (v := .ref (va 1)) (C := RX8) (T := TX8) (N := 6) hx hb hts uws_X8 hown hK hP 0 rfl rfl 2 (by decide) (hts _ u_1027) (fun _ h9 => h9) rfl dX8_faultOfNewDoor_19 ?_
    refine va_get (D := G.1) (ci := 6) (v := .int v.2.2.1.1) (C := RX2) (T := TX2) (N := 5) hx hb hts uws_X2 hown hK hP 1 rfl rfl 0 (by decide) (hts _ u_941) (fun _ h9 => h9) rfl dX8_faultOfNewDoor_22 ?_
    refine lv_bipush (v := (8 : Int32)) hx hb dX8_faultOfNewDoor_25 (by decide) ?_
    refine lv_icmp_lt (tgt := 34) hx hb dX8_faultOfNewDoor_27 (by decide) (fun c_3 => ?_) (fun c_3 => ?_)
    · have hF := hF.trans (if_pos c_3)
      refine lv_aload hx hb dX8_faultOfNewDoor_34 (lv_at hl 0 rfl) ?_
      exact r_retA hx hb hr hlk (Or.inl ⟨_, rfl⟩) (Or.inr ⟨_, rfl⟩) (by rw [hF]) (by rw [hF]; exact (b_1 : (f_X2_faultOfRule ph fh lh k) < 6)) dX8_faultOfNewDoor_36
    · have hF := hF.trans (if_neg c_3)
      refine va_gets (C := RX3) (n := "STATE") (d := "LMoonlitDoors$Fault;") hx hb (hST.1 4 (by decide)) hS hown (hts _ u_600) (fun _ h9 => h9) dX8_faultOfNewDoor_30 ?_
      exact r_retA hx hb hr hlk (Or.inl ⟨_, rfl⟩) (Or.inr ⟨_, rfl⟩) (by rw [hF]) (by rw [hF]; exact ((by decide) : 4 < 6)) dX8_faultOfNewDoor_33
theorem dX8_faultOfNewException_0 : decode cX8_faultOfNewException 0 = .ok (.aload_n 0, 1) := by decide +kernel
theorem dX8_faultOfNewException_1 : decode cX8_faultOfNewException 1 = .ok (.getfield 21, 3) := by decide +kernel
theorem dX8_faultOfNewException_4 : decode cX8_faultOfNewException 4 = .ok (.iload_n 1, 1) := by decide +kernel
theorem dX8_faultOfNewException_5 : decode cX8_faultOfNewException 5 = .ok (.invokevirtual 62, 3) := by decide +kernel
theorem u_592 : Cond.methodLink RX8 62 yX2_holds ∈ UW := uw 592 (by decide +kernel) rfl
theorem u_76 : Cond.instanceMethod yX2_holds ∈ UW := uw 76 (by decide +kernel) rfl
theorem u_77 : Cond.selects RX2 yX2_holds yX2_holds ∈ UW := uw 77 (by decide +kernel) rfl
theorem u_78 : Cond.code yX2_holds cX2_holds 2 (some .boolean) ∈ UW := uw 78 (by decide +kernel) rfl
theorem g_X8_62 : GoodIn UW (wsV RX8 62 RX2 yX2_holds (wsU yX2_holds cX2_holds 2 (some .boolean))) := gV u_592 u_76 u_77 u_23 u_78
theorem hdv_X2_holds : yX2_holds.cls = RX2 ∧ yX2_holds.cls ≠ "java/lang/invoke/MethodHandle" ∧ yX2_holds.cls ≠ "java/lang/invoke/VarHandle" ∧ (parseMethodDescriptor yX2_holds.desc).map (fun d => d.parameters.length) = some 1 := by decide +kernel
theorem dX8_faultOfNewException_8 : decode cX8_faultOfNewException 8 = .ok (.ifCond .ne 7, 3) := by decide +kernel
theorem dX8_faultOfNewException_15 : decode cX8_faultOfNewException 15 = .ok (.iload_n 2, 1) := by decide +kernel
theorem dX8_faultOfNewException_16 : decode cX8_faultOfNewException 16 = .ok (.ifCond .lt 10, 3) := by decide +kernel
theorem dX8_faultOfNewException_26 : decode cX8_faultOfNewException 26 = .ok (.getstatic 69, 3) := by decide +kernel
theorem u_595 : Cond.fieldLink RX8 69 "MoonlitDoors$Fault" "ARGUMENT" "LMoonlitDoors$Fault;" ∈ UW := uw 595 (by decide +kernel) rfl
theorem dX8_faultOfNewException_29 : decode cX8_faultOfNewException 29 = .ok (.areturn, 1) := by decide +kernel
theorem dX8_faultOfNewException_19 : decode cX8_faultOfNewException 19 = .ok (.iload_n 2, 1) := by decide +kernel
theorem dX8_faultOfNewException_20 : decode cX8_faultOfNewException 20 = .ok (.sipush 999, 3) := by decide +kernel
theorem dX8_faultOfNewException_23 : decode cX8_faultOfNewException 23 = .ok (.if_icmp .le 7, 3) := by decide +kernel
theorem dX8_faultOfNewException_30 : decode cX8_faultOfNewException 30 = .ok (.iload_n 2, 1) := by decide +kernel
theorem dX8_faultOfNewException_31 : decode cX8_faultOfNewException 31 = .ok (.aload_n 0, 1) := by decide +kernel
theorem dX8_faultOfNewException_32 : decode cX8_faultOfNewException 32 = .ok (.invokevirtual 72, 3) := by decide +kernel
theorem u_597 : Cond.methodLink RX8 72 yX8_today ∈ UW := uw 597 (by decide +kernel) rfl
theorem u_60 : Cond.instanceMethod yX8_today ∈ UW := uw 60 (by decide +kernel) rfl
theorem u_61 : Cond.selects RX8 yX8_today yX8_today ∈ UW := uw 61 (by decide +kernel) rfl
theorem u_22 : Cond.initialized RX8 ∈ UW := uw 22 (by decide +kernel) rfl
theorem u_62 : Cond.code yX8_today cX8_today 1 (some .int) ∈ UW := uw 62 (by decide +kernel) rfl
theorem g_X8_72 : GoodIn UW (wsV RX8 72 RX8 yX8_today (wsU yX8_today cX8_today 1 (some .int))) := gV u_597 u_60 u_61 u_22 u_62
theorem hdv_X8_today : yX8_today.cls = RX8 ∧ yX8_today.cls ≠ "java/lang/invoke/MethodHandle" ∧ yX8_today.cls ≠ "java/lang/invoke/VarHandle" ∧ (parseMethodDescriptor yX8_today.desc).map (fun d => d.parameters.length) = some 0 := by decide +kernel
theorem dX8_faultOfNewException_35 : decode cX8_faultOfNewException 35 = .ok (.if_icmp .ge 7, 3) := by decide +kernel
theorem dX8_faultOfNewException_42 : decode cX8_faultOfNewException 42 = .ok (.aload_n 0, 1) := by decide +kernel
theorem dX8_faultOfNewException_43 : decode cX8_faultOfNewException 43 = .ok (.getfield 28, 3) := by decide +kernel
theorem u_1029 : Cond.fieldLink RX8 28 "MoonlitDoors$State" "exceptions" "LMoonlitDoors$DayExceptions;" ∈ UW := uw 1029 (by decide +kernel) rfl
theorem dX8_faultOfNewException_46 : decode cX8_faultOfNewException 46 = .ok (.iload_n 1, 1) := by decide +kernel
theorem dX8_faultOfNewException_47 : decode cX8_faultOfNewException 47 = .ok (.iload_n 2, 1) := by decide +kernel
theorem dX8_faultOfNewException_48 : decode cX8_faultOfNewException 48 = .ok (.invokevirtual 79, 3) := by decide +kernel
theorem u_519 : Cond.methodLink RX8 79 yX1_positionOf ∈ UW := uw 519 (by decide +kernel) rfl
theorem g_X8_79 : GoodIn UW (wsV RX8 79 RX1 yX1_positionOf (wsU yX1_positionOf cX1_positionOf 4 (some .int))) := gV u_519 u_520 u_521 u_24 u_522
theorem dX8_faultOfNewException_51 : decode cX8_faultOfNewException 51 = .ok (.iconst (-1), 1) := by decide +kernel
theorem dX8_faultOfNewException_52 : decode cX8_faultOfNewException 52 = .ok (.if_icmp .ne 15, 3) := by decide +kernel
theorem dX8_faultOfNewException_67 : decode cX8_faultOfNewException 67 = .ok (.getstatic 59, 3) := by decide +kernel
theorem dX8_faultOfNewException_70 : decode cX8_faultOfNewException 70 = .ok (.areturn, 1) := by decide +kernel
theorem dX8_faultOfNewException_55 : decode cX8_faultOfNewException 55 = .ok (.aload_n 0, 1) := by decide +kernel
theorem dX8_faultOfNewException_56 : decode cX8_faultOfNewException 56 = .ok (.getfield 28, 3) := by decide +kernel
theorem dX8_faultOfNewException_59 : decode cX8_faultOfNewException 59 = .ok (.getfield 83, 3) := by decide +kernel
theorem u_965 : Cond.fieldLink RX8 83 "MoonlitDoors$DayExceptions" "count" "I" ∈ UW := uw 965 (by decide +kernel) rfl
theorem dX8_faultOfNewException_62 : decode cX8_faultOfNewException 62 = .ok (.bipush 12, 2) := by decide +kernel
theorem dX8_faultOfNewException_64 : decode cX8_faultOfNewException 64 = .ok (.if_icmp .lt 7, 3) := by decide +kernel
theorem dX8_faultOfNewException_71 : decode cX8_faultOfNewException 71 = .ok (.getstatic 50, 3) := by decide +kernel
theorem dX8_faultOfNewException_74 : decode cX8_faultOfNewException 74 = .ok (.areturn, 1) := by decide +kernel
theorem dX8_faultOfNewException_38 : decode cX8_faultOfNewException 38 = .ok (.getstatic 76, 3) := by decide +kernel
theorem u_598 : Cond.fieldLink RX8 76 "MoonlitDoors$Fault" "PAST" "LMoonlitDoors$Fault;" ∈ UW := uw 598 (by decide +kernel) rfl
theorem dX8_faultOfNewException_41 : decode cX8_faultOfNewException 41 = .ok (.areturn, 1) := by decide +kernel
theorem dX8_faultOfNewException_11 : decode cX8_faultOfNewException 11 = .ok (.getstatic 66, 3) := by decide +kernel
theorem u_593 : Cond.fieldLink RX8 66 "MoonlitDoors$Fault" "INDEX" "LMoonlitDoors$Fault;" ∈ UW := uw 593 (by decide +kernel) rfl
theorem dX8_faultOfNewException_14 : decode cX8_faultOfNewException 14 = .ok (.areturn, 1) := by decide +kernel
def f_X8_faultOfNewException (v : StV) (dr : Int32) (dy : Int32) : Nat := (if (f_X2_holds v.2.2.1 dr) = (0 : Int32) then 1 else (if dy < (0 : Int32) then 2 else (if dy ≤ (999 : Int32) then (if (f_X8_today v) ≤ dy then (if (f_X1_positionOf v.2.2.2.1 dr dy) = (-1 : Int32) then (if v.2.2.2.1.1 < (12 : Int32) then 0 else 4) else 4) else 3) else 2)))
set_option maxHeartbeats 4000000 in
set_option maxRecDepth 100000 in
theorem c_X8_faultOfNewException (l : Launch) (G : GG) (va : Nat → Nat) (v : StV) (dr : Int32) (dy : Int32) : rMet l yX8_faultOfNewException cX8_faultOfNewException 3 (some (.object "MoonlitDoors$Fault")) 3 G (fl [[((va 0), .inr (10, [.int v.1, .int v.2.1, .ref (va 1), .ref (va 6), .ref (va 10), .ref (va 13)]))], wDo G (va 1) (va 2) (va 3) (va 4) (va 5) v.2.2.1, wEx G (va 6) (va 7) (va 8) (va 9) v.2.2.2.1, wPe G (va 10) (va 11) (va 12) v.2.2.2.2.1, wAu G (va 13) (va 14) (va 15) (va 16) (va 17) (va 18) (va 19) v.2.2.2.2.2]) [.ref (va 0), .int dr, .int dy] (some (.ref (G.2.2.1 (f_X8_faultOfNewException v dr dy)))) ((f_X8_faultOfNewException v dr dy) < 6) := by
  refine r_start (by decide +kernel) (Nat.le_of_ble_eq_true rfl) ?_
  intro p e s m below meth c hx hb hr hml hts hown hlk hP hK hST ls hl
  have hS : va_S (fun _ => False) s.heap s.heap [] := va_S.rf
  have hown : s.vm.findClass RX8 = some m.cls := hown
  have hl : lv_has ls 3 [(0, .ref (va 0)), (1, .int dr), (2, .int dy)] := hl
  have hF : f_X8_faultOfNewException v dr dy = (if (f_X2_holds v.2.2.1 dr) = (0 : Int32) then 1 else (if dy < (0 : Int32) then 2 else (if dy ≤ (999 : Int32) then (if (f_X8_today v) ≤ dy then (if (f_X1_positionOf v.2.2.2.1 dr dy) = (-1 : Int32) then (if v.2.2.2.1.1 < (12 : Int32) then 0 else 4) else 4) else 3) else 2))) := rfl
  refine lv_aload_n hx hb dX8_faultOfNewException_0 rfl (lv_at hl 0 rfl) ?_
  refine va_get (D := G.1) (ci := 10) (v := .ref (va 1)) (C := RX8) (T := TX8) (N := 6) hx hb hts uws_X8 hown hK hP 0 rfl rfl 2 (by decide) (hts _ u_1027) (fun _ h9 => h9) rfl dX8_faultOfNewException_1 ?_
  refine lv_iload_n hx hb dX8_faultOfNewException_4 rfl (lv_at hl 1 rfl) ?_
  refine r_V (own := RX8) (v := (some (.int (f_X2_holds v.2.2.1 dr)))) (st1 := [.int (f_X2_holds v.2.2.1 dr)]) (As := [.int dr]) (rest := []) (c_X2_holds l G (va 1) (va 2) (va 3) (va 4) (va 5) v.2.2.1 dr) ⟨hx, hb, hml, hown, hts⟩ g_X8_62 hdv_X2_holds hK hST hS hP [1, 2, 3, 4, 5] rfl (k0 := 0) rfl rfl rfl ⟨Nat.le_of_ble_eq_true rfl, Nat.le_of_ble_eq_true rfl⟩ ⟨Nat.le_of_ble_eq_true rfl, Nat.le_of_ble_eq_true rfl⟩ rfl hl.1 rfl (Nat.le_of_ble_eq_true rfl) dX8_faultOfNewException_5 rfl (fun b_1 => ?_)
  refine lv_if_ne (tgt := 15) hx hb dX8_faultOfNewException_8 (by decide) (fun c_2 => ?_) (fun c_2 => ?_)
  · have hF := hF.trans (if_neg c_2)
    refine lv_iload_n hx hb dX8_faultOfNewException_15 rfl (lv_at hl 2 rfl) ?_
    refine lv_if_lt (tgt := 26) hx hb dX8_faultOfNewException_16 (by decide) (fun c_3 => ?_) (fun c_3 => ?_)
    · have hF := hF.trans (if_pos c_3)
      refine va_gets (C := RX3) (n := "ARGUMENT") (d := "LMoonlitDoors$Fault;") hx hb (hST.1 2 (by decide)) hS hown (hts _ u_595) (fun _ h9 => h9) dX8_faultOfNewException_26 ?_
      exact r_retA hx hb hr hlk (Or.inl ⟨_, rfl⟩) (Or.inr ⟨_, rfl⟩) (by rw [hF]) (by rw [hF]; exact ((by decide) : 2 < 6)) dX8_faultOfNewException_29
    · have hF := hF.trans (if_neg c_3)
      refine lv_iload_n hx hb dX8_faultOfNewException_19 rfl (lv_at hl 2 rfl) ?_
      refine lv_sipush (v := (999 : Int32)) hx hb dX8_faultOfNewException_20 (by decide) ?_
      refine lv_icmp_le (tgt := 30) hx hb dX8_faultOfNewException_23 (by decide) (fun c_4 => ?_) (fun c_4 => ?_)
      · have hF := hF.trans (if_pos c_4)
        refine lv_iload_n hx hb dX8_faultOfNewException_30 rfl (lv_at hl 2 rfl) ?_
        refine lv_aload_n hx hb dX8_faultOfNewException_31 rfl (lv_at hl 0 rfl) ?_
        refine r_V (own := RX8) (v := (some (.int (f_X8_today v)))) (st1 := [.int (f_X8_today v), .int dy]) (As := []) (rest := [.int dy]) (c_X8_today l G va v) ⟨hx, hb, hml, hown, hts⟩ g_X8_72 hdv_X8_today hK hST hS hP [0, 1, 2, 3, 4, 5, 6, 7, 8, 9, 10, 11, 12, 13, 14, 15, 16, 17, 18, 19] rfl (k0 := 0) rfl rfl rfl ⟨Nat.le_of_ble_eq_true rfl, Nat.le_of_ble_eq_true rfl⟩ ⟨Nat.le_of_ble_eq_true rfl, Nat.le_of_ble_eq_true rfl⟩ rfl hl.1 rfl (Nat.le_of_ble_eq_true rfl) dX8_faultOfNewException_32 rfl (fun b_5 => ?_)
        refine lv_icmp_ge (tgt := 42) hx hb dX8_faultOfNewException_35 (by decide) (fun c_6 => ?_) (fun c_6 => ?_)
        · have hF := hF.trans (if_pos c_6)
          refine lv_aload_n hx hb dX8_faultOfNewException_42 rfl (lv_at hl 0 rfl) ?_
          refine va_get (D := G.1) (ci := 10) (v := .ref (va 6)) (C := RX8) (T := TX8) (N := 6) hx hb hts uws_X8 hown hK hP 0 rfl rfl 3 (by decide) (hts _ u_1029) (fun _ h9 => h9) rfl dX8_faultOfNewException_43 ?_
          refine lv_iload_n hx hb dX8_faultOfNewException_46 rfl (lv_at hl 1 rfl) ?_
          refine lv_iload_n hx hb dX8_faultOfNewException_47 rfl (lv_at hl 2 rfl) ?_
          refine r_V (own := RX8) (v := (some (.int (f_X1_positionOf v.2.2.2.1 dr dy)))) (st1 := [.int (f_X1_positionOf v.2.2.2.1 dr dy)]) (As := [.int dr, .int dy]) (rest := []) (c_X1_positionOf l G (va 6) (va 7) (va 8) (va 9) v.2.2.2.1 dr dy) ⟨hx, hb, hml, hown, hts⟩ g_X8_79 hdv_X1_positionOf hK hST hS hP [6, 7, 8, 9] rfl (k0 := 0) rfl rfl rfl ⟨Nat.le_of_ble_eq_true rfl, Nat.le_of_ble_eq_true rfl⟩ ⟨Nat.le_of_ble_eq_true rfl, Nat.le_of_ble_eq_true rfl⟩ rfl hl.1 rfl (Nat.le_of_ble_eq_true rfl) dX8_faultOfNewException_48 rfl (fun b_7 => ?_)
          refine lv_iconst (v := (-1 : Int32)) hx hb dX8_faultOfNewException_51 (by decide) ?_
          refine lv_icmp_ne (tgt := 67) hx hb dX8_faultOfNewException_52 (by decide) (fun c_8 => ?_) (fun c_8 => ?_)
          · have hF := hF.trans (if_neg c_8)
            refine va_gets (C := RX3) (n := "STATE") (d := "LMoonlitDoors$Fault;") hx hb (hST.1 4 (by decide)) hS hown (hts _ u_600) (fun _ h9 => h9) dX8_faultOfNewException_67 ?_
            exact r_retA hx hb hr hlk (Or.inl ⟨_, rfl⟩) (Or.inr ⟨_, rfl⟩) (by rw [hF]) (by rw [hF]; exact ((by decide) : 4 < 6)) dX8_faultOfNewException_70
          · have hF := hF.trans (if_pos c_8)
            refine lv_aload_n hx hb dX8_faultOfNewException_55 rfl (lv_at hl 0 rfl) ?_
            refine va_get (D := G.1) (ci := 10) (v := .ref (va 6)) (C := RX8) (T := TX8) (N := 6) hx hb hts uws_X8 hown hK hP 0 rfl rfl 3 (by decide) (hts _ u_1029) (fun _ h9 => h9) rfl dX8_faultOfNewException_56 ?_
            refine va_get (D := G.1) (ci := 5) (v := .int v.2.2.2.1.1) (C := RX1) (T := TX1) (N := 4) hx hb hts uws_X1 hown hK hP 6 rfl rfl 0 (by decide) (hts _ u_965) (fun _ h9 => h9) rfl dX8_faultOfNewException_59 ?_
            refine lv_bipush (v := (12 : Int32)) hx hb dX8_faultOfNewException_62 (by decide) ?_
            refine lv_icmp_lt (tgt := 71) hx hb dX8_faultOfNewException_64 (by decide) (fun c_9 => ?_) (fun c_9 => ?_)
            · have hF := hF.trans (if_pos c_9)
              refine va_gets (C := RX3) (n := "NOTHING") (d := "LMoonlitDoors$Fault;") hx hb (hST.1 0 (by decide)) hS hown (hts _ u_602) (fun _ h9 => h9) dX8_faultOfNewException_71 ?_
              exact r_retA hx hb hr hlk (Or.inl ⟨_, rfl⟩) (Or.inr ⟨_, rfl⟩) (by rw [hF]) (by rw [hF]; exact ((by decide) : 0 < 6)) dX8_faultOfNewException_74
            · have hF := hF.trans (if_neg c_9)
              refine va_gets (C := RX3) (n := "STATE") (d := "LMoonlitDoors$Fault;") hx hb (hST.1 4 (by decide)) hS hown (hts _ u_600) (fun _ h9 => h9) dX8_faultOfNewException_67 ?_
              exact r_retA hx hb hr hlk (Or.inl ⟨_, rfl⟩) (Or.inr ⟨_, rfl⟩) (by rw [hF]) (by rw [hF]; exact ((by decide) : 4 < 6)) dX8_faultOfNewException_70
        · have hF := hF.trans (if_neg c_6)
          refine va_gets (C := RX3) (n := "PAST") (d := "LMoonlitDoors$Fault;") hx hb (hST.1 3 (by decide)) hS hown (hts _ u_598) (fun _ h9 => h9) dX8_faultOfNewException_38 ?_
          exact r_retA hx hb hr hlk (Or.inl ⟨_, rfl⟩) (Or.inr ⟨_, rfl⟩) (by rw [hF]) (by rw [hF]; exact ((by decide) : 3 < 6)) dX8_faultOfNewException_41
      · have hF := hF.trans (if_neg c_4)
        refine va_gets (C := RX3) (n := "ARGUMENT") (d := "LMoonlitDoors$Fault;") hx hb (hST.1 2 (by decide)) hS hown (hts _ u_595) (fun _ h9 => h9) dX8_faultOfNewException_26 ?_
        exact r_retA hx hb hr hlk (Or.inl ⟨_, rfl⟩) (Or.inr ⟨_, rfl⟩) (by rw [hF]) (by rw [hF]; exact ((by decide) : 2 < 6)) dX8_faultOfNewException_29
  · have hF := hF.trans (if_pos c_2)
    refine va_gets (C := RX3) (n := "INDEX") (d := "LMoonlitDoors$Fault;") hx hb (hST.1 1 (by decide)) hS hown (hts _ u_593) (fun _ h9 => h9) dX8_faultOfNewException_11 ?_
    exact r_retA hx hb hr hlk (Or.inl ⟨_, rfl⟩) (Or.inr ⟨_, rfl⟩) (by rw [hF]) (by rw [hF]; exact ((by decide) : 1 < 6)) dX8_faultOfNewException_14
theorem dX8_faultOfLifting_0 : decode cX8_faultOfLifting 0 = .ok (.aload_n 0, 1) := by decide +kernel
theorem dX8_faultOfLifting_1 : decode cX8_faultOfLifting 1 = .ok (.getfield 21, 3) := by decide +kernel
theorem dX8_faultOfLifting_4 : decode cX8_faultOfLifting 4 = .ok (.iload_n 1, 1) := by decide +kernel
theorem dX8_faultOfLifting_5 : decode cX8_faultOfLifting 5 = .ok (.invokevirtual 62, 3) := by decide +kernel
theorem dX8_faultOfLifting_8 : decode cX8_faultOfLifting 8 = .ok (.ifCond .ne 7, 3) := by decide +kernel
theorem dX8_faultOfLifting_15 : decode cX8_faultOfLifting 15 = .ok (.aload_n 0, 1) := by decide +kernel
theorem dX8_faultOfLifting_16 : decode cX8_faultOfLifting 16 = .ok (.getfield 28, 3) := by decide +kernel
theorem dX8_faultOfLifting_19 : decode cX8_faultOfLifting 19 = .ok (.iload_n 1, 1) := by decide +kernel
theorem dX8_faultOfLifting_20 : decode cX8_faultOfLifting 20 = .ok (.iload_n 2, 1) := by decide +kernel
theorem dX8_faultOfLifting_21 : decode cX8_faultOfLifting 21 = .ok (.invokevirtual 79, 3) := by decide +kernel
theorem dX8_faultOfLifting_24 : decode cX8_faultOfLifting 24 = .ok (.iconst (-1), 1) := by decide +kernel
theorem dX8_faultOfLifting_25 : decode cX8_faultOfLifting 25 = .ok (.if_icmp .ne 9, 3) := by decide +kernel
theorem dX8_faultOfLifting_34 : decode cX8_faultOfLifting 34 = .ok (.getstatic 50, 3) := by decide +kernel
theorem dX8_faultOfLifting_37 : decode cX8_faultOfLifting 37 = .ok (.areturn, 1) := by decide +kernel
theorem dX8_faultOfLifting_28 : decode cX8_faultOfLifting 28 = .ok (.getstatic 84, 3) := by decide +kernel
theorem u_1227 : Cond.fieldLink RX8 84 "MoonlitDoors$Fault" "ELEMENT" "LMoonlitDoors$Fault;" ∈ UW := uw 1227 (by decide +kernel) rfl
theorem dX8_faultOfLifting_31 : decode cX8_faultOfLifting 31 = .ok (.goto 6, 3) := by decide +kernel
theorem dX8_faultOfLifting_11 : decode cX8_faultOfLifting 11 = .ok (.getstatic 66, 3) := by decide +kernel
theorem dX8_faultOfLifting_14 : decode cX8_faultOfLifting 14 = .ok (.areturn, 1) := by decide +kernel
def f_X8_faultOfLifting (v : StV) (dr : Int32) (dy : Int32) : Nat := (if (f_X2_holds v.2.2.1 dr) = (0 : Int32) then 1 else (if (f_X1_positionOf v.2.2.2.1 dr dy) = (-1 : Int32) then 5 else 0))
set_option maxHeartbeats 4000000 in
set_option maxRecDepth 100000 in
theorem c_X8_faultOfLifting (l : Launch) (G : GG) (va : Nat → Nat) (v : StV) (dr : Int32) (dy : Int32) : rMet l yX8_faultOfLifting cX8_faultOfLifting 3 (some (.object "MoonlitDoors$Fault")) 3 G (fl [[((va 0), .inr (10, [.int v.1, .int v.2.1, .ref (va 1), .ref (va 6), .ref (va 10), .ref (va 13)]))], wDo G (va 1) (va 2) (va 3) (va 4) (va 5) v.2.2.1, wEx G (va 6) (va 7) (va 8) (va 9) v.2.2.2.1, wPe G (va 10) (va 11) (va 12) v.2.2.2.2.1, wAu G (va 13) (va 14) (va 15) (va 16) (va 17) (va 18) (va 19) v.2.2.2.2.2]) [.ref (va 0), .int dr, .int dy] (some (.ref (G.2.2.1 (f_X8_faultOfLifting v dr dy)))) ((f_X8_faultOfLifting v dr dy) < 6) := by
  refine r_start (by decide +kernel) (Nat.le_of_ble_eq_true rfl) ?_
  intro p e s m below meth c hx hb hr hml hts hown hlk hP hK hST ls hl
  have hS : va_S (fun _ => False) s.heap s.heap [] := va_S.rf
  have hown : s.vm.findClass RX8 = some m.cls := hown
  have hl : lv_has ls 3 [(0, .ref (va 0)), (1, .int dr), (2, .int dy)] := hl
  have hF : f_X8_faultOfLifting v dr dy = (if (f_X2_holds v.2.2.1 dr) = (0 : Int32) then 1 else (if (f_X1_positionOf v.2.2.2.1 dr dy) = (-1 : Int32) then 5 else 0)) := rfl
  refine lv_aload_n hx hb dX8_faultOfLifting_0 rfl (lv_at hl 0 rfl) ?_
  refine va_get (D := G.1) (ci := 10) (v := .ref (va 1)) (C := RX8) (T := TX8) (N := 6) hx hb hts uws_X8 hown hK hP 0 rfl rfl 2 (by decide) (hts _ u_1027) (fun _ h9 => h9) rfl dX8_faultOfLifting_1 ?_
  refine lv_iload_n hx hb dX8_faultOfLifting_4 rfl (lv_at hl 1 rfl) ?_
  refine r_V (own := RX8) (v := (some (.int (f_X2_holds v.2.2.1 dr)))) (st1 := [.int (f_X2_holds v.2.2.1 dr)]) (As := [.int dr]) (rest := []) (c_X2_holds l G (va 1) (va 2) (va 3) (va 4) (va 5) v.2.2.1 dr) ⟨hx, hb, hml, hown, hts⟩ g_X8_62 hdv_X2_holds hK hST hS hP [1, 2, 3, 4, 5] rfl (k0 := 0) rfl rfl rfl ⟨Nat.le_of_ble_eq_true rfl, Nat.le_of_ble_eq_true rfl⟩ ⟨Nat.le_of_ble_eq_true rfl, Nat.le_of_ble_eq_true rfl⟩ rfl hl.1 rfl (Nat.le_of_ble_eq_true rfl) dX8_faultOfLifting_5 rfl (fun b_1 => ?_)
  refine lv_if_ne (tgt := 15) hx hb dX8_faultOfLifting_8 (by decide) (fun c_2 => ?_) (fun c_2 => ?_)
  · have hF := hF.trans (if_neg c_2)
    refine lv_aload_n hx hb dX8_faultOfLifting_15 rfl (lv_at hl 0 rfl) ?_
    refine va_get (D := G.1) (ci := 10) (v := .ref (va 6)) (C := RX8) (T := TX8) (N := 6) hx hb hts uws_X8 hown hK hP 0 rfl rfl 3 (by decide) (hts _ u_1029) (fun _ h9 => h9) rfl dX8_faultOfLifting_16 ?_
    refine lv_iload_n hx hb dX8_faultOfLifting_19 rfl (lv_at hl 1 rfl) ?_
    refine lv_iload_n hx hb dX8_faultOfLifting_20 rfl (lv_at hl 2 rfl) ?_
    refine r_V (own := RX8) (v := (some (.int (f_X1_positionOf v.2.2.2.1 dr dy)))) (st1 := [.int (f_X1_positionOf v.2.2.2.1 dr dy)]) (As := [.int dr, .int dy]) (rest := []) (c_X1_positionOf l G (va 6) (va 7) (va 8) (va 9) v.2.2.2.1 dr dy) ⟨hx, hb, hml, hown, hts⟩ g_X8_79 hdv_X1_positionOf hK hST hS hP [6, 7, 8, 9] rfl (k0 := 0) rfl rfl rfl ⟨Nat.le_of_ble_eq_true rfl, Nat.le_of_ble_eq_true rfl⟩ ⟨Nat.le_of_ble_eq_true rfl, Nat.le_of_ble_eq_true rfl⟩ rfl hl.1 rfl (Nat.le_of_ble_eq_true rfl) dX8_faultOfLifting_21 rfl (fun b_3 => ?_)
    refine lv_iconst (v := (-1 : Int32)) hx hb dX8_faultOfLifting_24 (by decide) ?_
    refine lv_icmp_ne (tgt := 34) hx hb dX8_faultOfLifting_25 (by decide) (fun c_4 => ?_) (fun c_4 => ?_)
    · have hF := hF.trans (if_neg c_4)
      refine va_gets (C := RX3) (n := "NOTHING") (d := "LMoonlitDoors$Fault;") hx hb (hST.1 0 (by decide)) hS hown (hts _ u_602) (fun _ h9 => h9) dX8_faultOfLifting_34 ?_
      exact r_retA hx hb hr hlk (Or.inl ⟨_, rfl⟩) (Or.inr ⟨_, rfl⟩) (by rw [hF]) (by rw [hF]; exact ((by decide) : 0 < 6)) dX8_faultOfLifting_37
    · have hF := hF.trans (if_pos c_4)
      refine va_gets (C := RX3) (n := "ELEMENT") (d := "LMoonlitDoors$Fault;") hx hb (hST.1 5 (by decide)) hS hown (hts _ u_1227) (fun _ h9 => h9) dX8_faultOfLifting_28 ?_
      refine lv_goto (tgt := 37) hx hb dX8_faultOfLifting_31 (by decide) ?_
      exact r_retA hx hb hr hlk (Or.inl ⟨_, rfl⟩) (Or.inr ⟨_, rfl⟩) (by rw [hF]) (by rw [hF]; exact ((by decide) : 5 < 6)) dX8_faultOfLifting_37
  · have hF := hF.trans (if_pos c_2)
    refine va_gets (C := RX3) (n := "INDEX") (d := "LMoonlitDoors$Fault;") hx hb (hST.1 1 (by decide)) hS hown (hts _ u_593) (fun _ h9 => h9) dX8_faultOfLifting_11 ?_
    exact r_retA hx hb hr hlk (Or.inl ⟨_, rfl⟩) (Or.inr ⟨_, rfl⟩) (by rw [hF]) (by rw [hF]; exact ((by decide) : 1 < 6)) dX8_faultOfLifting_14
theorem dX8_faultOfAttempt_0 : decode cX8_faultOfAttempt 0 = .ok (.aload_n 0, 1) := by decide +kernel
theorem dX8_faultOfAttempt_1 : decode cX8_faultOfAttempt 1 = .ok (.getfield 35, 3) := by decide +kernel
theorem u_1031 : Cond.fieldLink RX8 35 "MoonlitDoors$State" "persons" "LMoonlitDoors$Persons;" ∈ UW := uw 1031 (by decide +kernel) rfl
theorem dX8_faultOfAttempt_4 : decode cX8_faultOfAttempt 4 = .ok (.iload_n 1, 1) := by decide +kernel
theorem dX8_faultOfAttempt_5 : decode cX8_faultOfAttempt 5 = .ok (.invokevirtual 87, 3) := by decide +kernel
theorem u_731 : Cond.methodLink RX8 87 yX5_holds ∈ UW := uw 731 (by decide +kernel) rfl
theorem g_X8_87 : GoodIn UW (wsV RX8 87 RX5 yX5_holds (wsU yX5_holds cX5_holds 2 (some .boolean))) := gV u_731 u_732 u_733 u_25 u_734
theorem dX8_faultOfAttempt_8 : decode cX8_faultOfAttempt 8 = .ok (.ifCond .eq 20, 3) := by decide +kernel
theorem dX8_faultOfAttempt_28 : decode cX8_faultOfAttempt 28 = .ok (.getstatic 66, 3) := by decide +kernel
theorem dX8_faultOfAttempt_31 : decode cX8_faultOfAttempt 31 = .ok (.areturn, 1) := by decide +kernel
theorem dX8_faultOfAttempt_11 : decode cX8_faultOfAttempt 11 = .ok (.aload_n 0, 1) := by decide +kernel
theorem dX8_faultOfAttempt_12 : decode cX8_faultOfAttempt 12 = .ok (.getfield 21, 3) := by decide +kernel
theorem dX8_faultOfAttempt_15 : decode cX8_faultOfAttempt 15 = .ok (.iload_n 2, 1) := by decide +kernel
theorem dX8_faultOfAttempt_16 : decode cX8_faultOfAttempt 16 = .ok (.invokevirtual 62, 3) := by decide +kernel
theorem dX8_faultOfAttempt_19 : decode cX8_faultOfAttempt 19 = .ok (.ifCond .eq 9, 3) := by decide +kernel
theorem dX8_faultOfAttempt_22 : decode cX8_faultOfAttempt 22 = .ok (.getstatic 50, 3) := by decide +kernel
theorem dX8_faultOfAttempt_25 : decode cX8_faultOfAttempt 25 = .ok (.goto 6, 3) := by decide +kernel
def f_X8_faultOfAttempt (v : StV) (ps : Int32) (dr : Int32) : Nat := (if (f_X5_holds v.2.2.2.2.1 ps) = (0 : Int32) then 1 else (if (f_X2_holds v.2.2.1 dr) = (0 : Int32) then 1 else 0))
set_option maxHeartbeats 4000000 in
set_option maxRecDepth 100000 in
theorem c_X8_faultOfAttempt (l : Launch) (G : GG) (va : Nat → Nat) (v : StV) (ps : Int32) (dr : Int32) : rMet l yX8_faultOfAttempt cX8_faultOfAttempt 3 (some (.object "MoonlitDoors$Fault")) 2 G (fl [[((va 0), .inr (10, [.int v.1, .int v.2.1, .ref (va 1), .ref (va 6), .ref (va 10), .ref (va 13)]))], wDo G (va 1) (va 2) (va 3) (va 4) (va 5) v.2.2.1, wEx G (va 6) (va 7) (va 8) (va 9) v.2.2.2.1, wPe G (va 10) (va 11) (va 12) v.2.2.2.2.1, wAu G (va 13) (va 14) (va 15) (va 16) (va 17) (va 18) (va 19) v.2.2.2.2.2]) [.ref (va 0), .int ps, .int dr] (some (.ref (G.2.2.1 (f_X8_faultOfAttempt v ps dr)))) ((f_X8_faultOfAttempt v ps dr) < 6) := by
  refine r_start (by decide +kernel) (Nat.le_of_ble_eq_true rfl) ?_
  intro p e s m below meth c hx hb hr hml hts hown hlk hP hK hST ls hl
  have hS : va_S (fun _ => False) s.heap s.heap [] := va_S.rf
  have hown : s.vm.findClass RX8 = some m.cls := hown
  have hl : lv_has ls 3 [(0, .ref (va 0)), (1, .int ps), (2, .int dr)] := hl
  have hF : f_X8_faultOfAttempt v ps dr = (if (f_X5_holds v.2.2.2.2.1 ps) = (0 : Int32) then 1 else (if (f_X2_holds v.2.2.1 dr) = (0 : Int32) then 1 else 0)) := rfl
  refine lv_aload_n hx hb dX8_faultOfAttempt_0 rfl (lv_at hl 0 rfl) ?_
  refine va_get (D := G.1) (ci := 10) (v := .ref (va 10)) (C := RX8) (T := TX8) (N := 6) hx hb hts uws_X8 hown hK hP 0 rfl rfl 4 (by decide) (hts _ u_1031) (fun _ h9 => h9) rfl dX8_faultOfAttempt_1 ?_
  refine lv_iload_n hx hb dX8_faultOfAttempt_4 rfl (lv_at hl 1 rfl) ?_
  refine r_V (own := RX8) (v := (some (.int (f_X5_holds v.2.2.2.2.1 ps)))) (st1 := [.int (f_X5_holds v.2.2.2.2.1 ps)]) (As := [.int ps]) (rest := []) (c_X5_holds l G (va 10) (va 11) (va 12) v.2.2.2.2.1 ps) ⟨hx, hb, hml, hown, hts⟩ g_X8_87 hdv_X5_holds hK hST hS hP [10, 11, 12] rfl (k0 := 0) rfl rfl rfl ⟨Nat.le_of_ble_eq_true rfl, Nat.le_of_ble_eq_true rfl⟩ ⟨Nat.le_of_ble_eq_true rfl, Nat.le_of_ble_eq_true rfl⟩ rfl hl.1 rfl (Nat.le_of_ble_eq_true rfl) dX8_faultOfAttempt_5 rfl (fun b_1 => ?_)
  refine lv_if_eq (tgt := 28) hx hb dX8_faultOfAttempt_8 (by decide) (fun c_2 => ?_) (fun c_2 => ?_)
  · have hF := hF.trans (if_pos c_2)
    refine va_gets (C := RX3) (n := "INDEX") (d := "LMoonlitDoors$Fault;") hx hb (hST.1 1 (by decide)) hS hown (hts _ u_593) (fun _ h9 => h9) dX8_faultOfAttempt_28 ?_
    exact r_retA hx hb hr hlk (Or.inl ⟨_, rfl⟩) (Or.inr ⟨_, rfl⟩) (by rw [hF]) (by rw [hF]; exact ((by decide) : 1 < 6)) dX8_faultOfAttempt_31
  · have hF := hF.trans (if_neg c_2)
    refine lv_aload_n hx hb dX8_faultOfAttempt_11 rfl (lv_at hl 0 rfl) ?_
    refine va_get (D := G.1) (ci := 10) (v := .ref (va 1)) (C := RX8) (T := TX8) (N := 6) hx hb hts uws_X8 hown hK hP 0 rfl rfl 2 (by decide) (hts _ u_1027) (fun _ h9 => h9) rfl dX8_faultOfAttempt_12 ?_
    refine lv_iload_n hx hb dX8_faultOfAttempt_15 rfl (lv_at hl 2 rfl) ?_
    refine r_V (own := RX8) (v := (some (.int (f_X2_holds v.2.2.1 dr)))) (st1 := [.int (f_X2_holds v.2.2.1 dr)]) (As := [.int dr]) (rest := []) (c_X2_holds l G (va 1) (va 2) (va 3) (va 4) (va 5) v.2.2.1 dr) ⟨hx, hb, hml, hown, hts⟩ g_X8_62 hdv_X2_holds hK hST hS hP [1, 2, 3, 4, 5] rfl (k0 := 0) rfl rfl rfl ⟨Nat.le_of_ble_eq_true rfl, Nat.le_of_ble_eq_true rfl⟩ ⟨Nat.le_of_ble_eq_true rfl, Nat.le_of_ble_eq_true rfl⟩ rfl hl.1 rfl (Nat.le_of_ble_eq_true rfl) dX8_faultOfAttempt_16 rfl (fun b_3 => ?_)
    refine lv_if_eq (tgt := 28) hx hb dX8_faultOfAttempt_19 (by decide) (fun c_4 => ?_) (fun c_4 => ?_)
    · have hF := hF.trans (if_pos c_4)
      refine va_gets (C := RX3) (n := "INDEX") (d := "LMoonlitDoors$Fault;") hx hb (hST.1 1 (by decide)) hS hown (hts _ u_593) (fun _ h9 => h9) dX8_faultOfAttempt_28 ?_
      exact r_retA hx hb hr hlk (Or.inl ⟨_, rfl⟩) (Or.inr ⟨_, rfl⟩) (by rw [hF]) (by rw [hF]; exact ((by decide) : 1 < 6)) dX8_faultOfAttempt_31
    · have hF := hF.trans (if_neg c_4)
      refine va_gets (C := RX3) (n := "NOTHING") (d := "LMoonlitDoors$Fault;") hx hb (hST.1 0 (by decide)) hS hown (hts _ u_602) (fun _ h9 => h9) dX8_faultOfAttempt_22 ?_
      refine lv_goto (tgt := 31) hx hb dX8_faultOfAttempt_25 (by decide) ?_
      exact r_retA hx hb hr hlk (Or.inl ⟨_, rfl⟩) (Or.inr ⟨_, rfl⟩) (by rw [hF]) (by rw [hF]; exact ((by decide) : 0 < 6)) dX8_faultOfAttempt_31
theorem dX8_faultOfCycle_0 : decode cX8_faultOfCycle 0 = .ok (.iload_n 0, 1) := by decide +kernel
theorem dX8_faultOfCycle_1 : decode cX8_faultOfCycle 1 = .ok (.bipush 24, 2) := by decide +kernel
theorem dX8_faultOfCycle_3 : decode cX8_faultOfCycle 3 = .ok (.if_icmp .lt 9, 3) := by decide +kernel
theorem dX8_faultOfCycle_12 : decode cX8_faultOfCycle 12 = .ok (.getstatic 69, 3) := by decide +kernel
theorem dX8_faultOfCycle_15 : decode cX8_faultOfCycle 15 = .ok (.goto 6, 3) := by decide +kernel
theorem dX8_faultOfCycle_21 : decode cX8_faultOfCycle 21 = .ok (.areturn, 1) := by decide +kernel
theorem dX8_faultOfCycle_6 : decode cX8_faultOfCycle 6 = .ok (.iload_n 0, 1) := by decide +kernel
theorem dX8_faultOfCycle_7 : decode cX8_faultOfCycle 7 = .ok (.bipush 32, 2) := by decide +kernel
theorem dX8_faultOfCycle_9 : decode cX8_faultOfCycle 9 = .ok (.if_icmp .le 9, 3) := by decide +kernel
theorem dX8_faultOfCycle_18 : decode cX8_faultOfCycle 18 = .ok (.getstatic 50, 3) := by decide +kernel
def f_X8_faultOfCycle (x : Int32) : Nat := (if x < (24 : Int32) then 2 else (if x ≤ (32 : Int32) then 0 else 2))
set_option maxHeartbeats 4000000 in
set_option maxRecDepth 100000 in
theorem c_X8_faultOfCycle (l : Launch) (G : GG)  (x : Int32) : rMet l yX8_faultOfCycle cX8_faultOfCycle 1 (some (.object "MoonlitDoors$Fault")) 1 G (fl []) [.int x] (some (.ref (G.2.2.1 (f_X8_faultOfCycle x)))) ((f_X8_faultOfCycle x) < 6) := by
  refine r_start (by decide +kernel) (Nat.le_of_ble_eq_true rfl) ?_
  intro p e s m below meth c hx hb hr hml hts hown hlk hP hK hST ls hl
  have hS : va_S (fun _ => False) s.heap s.heap [] := va_S.rf
  have hown : s.vm.findClass RX8 = some m.cls := hown
  have hl : lv_has ls 1 [(0, .int x)] := hl
  have hF : f_X8_faultOfCycle x = (if x < (24 : Int32) then 2 else (if x ≤ (32 : Int32) then 0 else 2)) := rfl
  refine lv_iload_n hx hb dX8_faultOfCycle_0 rfl (lv_at hl 0 rfl) ?_
  refine lv_bipush (v := (24 : Int32)) hx hb dX8_faultOfCycle_1 (by decide) ?_
  refine lv_icmp_lt (tgt := 12) hx hb dX8_faultOfCycle_3 (by decide) (fun c_1 => ?_) (fun c_1 => ?_)
  · have hF := hF.trans (if_pos c_1)
    refine va_gets (C := RX3) (n := "ARGUMENT") (d := "LMoonlitDoors$Fault;") hx hb (hST.1 2 (by decide)) hS hown (hts _ u_595) (fun _ h9 => h9) dX8_faultOfCycle_12 ?_
    refine lv_goto (tgt := 21) hx hb dX8_faultOfCycle_15 (by decide) ?_
    exact r_retA hx hb hr hlk (Or.inl ⟨_, rfl⟩) (Or.inr ⟨_, rfl⟩) (by rw [hF]) (by rw [hF]; exact ((by decide) : 2 < 6)) dX8_faultOfCycle_21
  · have hF := hF.trans (if_neg c_1)
    refine lv_iload_n hx hb dX8_faultOfCycle_6 rfl (lv_at hl 0 rfl) ?_
    refine lv_bipush (v := (32 : Int32)) hx hb dX8_faultOfCycle_7 (by decide) ?_
    refine lv_icmp_le (tgt := 18) hx hb dX8_faultOfCycle_9 (by decide) (fun c_2 => ?_) (fun c_2 => ?_)
    · have hF := hF.trans (if_pos c_2)
      refine va_gets (C := RX3) (n := "NOTHING") (d := "LMoonlitDoors$Fault;") hx hb (hST.1 0 (by decide)) hS hown (hts _ u_602) (fun _ h9 => h9) dX8_faultOfCycle_18 ?_
      exact r_retA hx hb hr hlk (Or.inl ⟨_, rfl⟩) (Or.inr ⟨_, rfl⟩) (by rw [hF]) (by rw [hF]; exact ((by decide) : 0 < 6)) dX8_faultOfCycle_21
    · have hF := hF.trans (if_neg c_2)
      refine va_gets (C := RX3) (n := "ARGUMENT") (d := "LMoonlitDoors$Fault;") hx hb (hST.1 2 (by decide)) hS hown (hts _ u_595) (fun _ h9 => h9) dX8_faultOfCycle_12 ?_
      refine lv_goto (tgt := 21) hx hb dX8_faultOfCycle_15 (by decide) ?_
      exact r_retA hx hb hr hlk (Or.inl ⟨_, rfl⟩) (Or.inr ⟨_, rfl⟩) (by rw [hF]) (by rw [hF]; exact ((by decide) : 2 < 6)) dX8_faultOfCycle_21
theorem dX8_faultOfWaiting_0 : decode cX8_faultOfWaiting 0 = .ok (.iload_n 0, 1) := by decide +kernel
theorem dX8_faultOfWaiting_1 : decode cX8_faultOfWaiting 1 = .ok (.iconst 1, 1) := by decide +kernel
theorem dX8_faultOfWaiting_2 : decode cX8_faultOfWaiting 2 = .ok (.if_icmp .lt 10, 3) := by decide +kernel
theorem dX8_faultOfWaiting_12 : decode cX8_faultOfWaiting 12 = .ok (.getstatic 69, 3) := by decide +kernel
theorem dX8_faultOfWaiting_15 : decode cX8_faultOfWaiting 15 = .ok (.goto 6, 3) := by decide +kernel
theorem dX8_faultOfWaiting_21 : decode cX8_faultOfWaiting 21 = .ok (.areturn, 1) := by decide +kernel
theorem dX8_faultOfWaiting_5 : decode cX8_faultOfWaiting 5 = .ok (.iload_n 0, 1) := by decide +kernel
theorem dX8_faultOfWaiting_6 : decode cX8_faultOfWaiting 6 = .ok (.sipush 240, 3) := by decide +kernel
theorem dX8_faultOfWaiting_9 : decode cX8_faultOfWaiting 9 = .ok (.if_icmp .le 9, 3) := by decide +kernel
theorem dX8_faultOfWaiting_18 : decode cX8_faultOfWaiting 18 = .ok (.getstatic 50, 3) := by decide +kernel
def f_X8_faultOfWaiting (x : Int32) : Nat := (if x < (1 : Int32) then 2 else (if x ≤ (240 : Int32) then 0 else 2))
set_option maxHeartbeats 4000000 in
set_option maxRecDepth 100000 in
theorem c_X8_faultOfWaiting (l : Launch) (G : GG)  (x : Int32) : rMet l yX8_faultOfWaiting cX8_faultOfWaiting 1 (some (.object "MoonlitDoors$Fault")) 1 G (fl []) [.int x] (some (.ref (G.2.2.1 (f_X8_faultOfWaiting x)))) ((f_X8_faultOfWaiting x) < 6) := by
  refine r_start (by decide +kernel) (Nat.le_of_ble_eq_true rfl) ?_
  intro p e s m below meth c hx hb hr hml hts hown hlk hP hK hST ls hl
  have hS : va_S (fun _ => False) s.heap s.heap [] := va_S.rf
  have hown : s.vm.findClass RX8 = some m.cls := hown
  have hl : lv_has ls 1 [(0, .int x)] := hl
  have hF : f_X8_faultOfWaiting x = (if x < (1 : Int32) then 2 else (if x ≤ (240 : Int32) then 0 else 2)) := rfl
  refine lv_iload_n hx hb dX8_faultOfWaiting_0 rfl (lv_at hl 0 rfl) ?_
  refine lv_iconst (v := (1 : Int32)) hx hb dX8_faultOfWaiting_1 (by decide) ?_
  refine lv_icmp_lt (tgt := 12) hx hb dX8_faultOfWaiting_2 (by decide) (fun c_1 => ?_) (fun c_1 => ?_)
  · have hF := hF.trans (if_pos c_1)
    refine va_gets (C := RX3) (n := "ARGUMENT") (d := "LMoonlitDoors$Fault;") hx hb (hST.1 2 (by decide)) hS hown (hts _ u_595) (fun _ h9 => h9) dX8_faultOfWaiting_12 ?_
    refine lv_goto (tgt := 21) hx hb dX8_faultOfWaiting_15 (by decide) ?_
    exact r_retA hx hb hr hlk (Or.inl ⟨_, rfl⟩) (Or.inr ⟨_, rfl⟩) (by rw [hF]) (by rw [hF]; exact ((by decide) : 2 < 6)) dX8_faultOfWaiting_21
  · have hF := hF.trans (if_neg c_1)
    refine lv_iload_n hx hb dX8_faultOfWaiting_5 rfl (lv_at hl 0 rfl) ?_
    refine lv_sipush (v := (240 : Int32)) hx hb dX8_faultOfWaiting_6 (by decide) ?_
    refine lv_icmp_le (tgt := 18) hx hb dX8_faultOfWaiting_9 (by decide) (fun c_2 => ?_) (fun c_2 => ?_)
    · have hF := hF.trans (if_pos c_2)
      refine va_gets (C := RX3) (n := "NOTHING") (d := "LMoonlitDoors$Fault;") hx hb (hST.1 0 (by decide)) hS hown (hts _ u_602) (fun _ h9 => h9) dX8_faultOfWaiting_18 ?_
      exact r_retA hx hb hr hlk (Or.inl ⟨_, rfl⟩) (Or.inr ⟨_, rfl⟩) (by rw [hF]) (by rw [hF]; exact ((by decide) : 0 < 6)) dX8_faultOfWaiting_21
    · have hF := hF.trans (if_neg c_2)
      refine va_gets (C := RX3) (n := "ARGUMENT") (d := "LMoonlitDoors$Fault;") hx hb (hST.1 2 (by decide)) hS hown (hts _ u_595) (fun _ h9 => h9) dX8_faultOfWaiting_12 ?_
      refine lv_goto (tgt := 21) hx hb dX8_faultOfWaiting_15 (by decide) ?_
      exact r_retA hx hb hr hlk (Or.inl ⟨_, rfl⟩) (Or.inr ⟨_, rfl⟩) (by rw [hF]) (by rw [hF]; exact ((by decide) : 2 < 6)) dX8_faultOfWaiting_21
theorem dX8_changeCycle_0 : decode cX8_changeCycle 0 = .ok (.aload_n 0, 1) := by decide +kernel
theorem dX8_changeCycle_1 : decode cX8_changeCycle 1 = .ok (.getfield 15, 3) := by decide +kernel
theorem u_1026 : Cond.fieldLink RX8 15 "MoonlitDoors$State" "cycle" "I" ∈ UW := uw 1026 (by decide +kernel) rfl
theorem dX8_changeCycle_4 : decode cX8_changeCycle 4 = .ok (.istore_n 2, 1) := by decide +kernel
theorem dX8_changeCycle_5 : decode cX8_changeCycle 5 = .ok (.aload_n 0, 1) := by decide +kernel
theorem dX8_changeCycle_6 : decode cX8_changeCycle 6 = .ok (.iload_n 1, 1) := by decide +kernel
theorem dX8_changeCycle_7 : decode cX8_changeCycle 7 = .ok (.putfield 15, 3) := by decide +kernel
theorem dX8_changeCycle_10 : decode cX8_changeCycle 10 = .ok (.iload_n 2, 1) := by decide +kernel
theorem dX8_changeCycle_11 : decode cX8_changeCycle 11 = .ok (.ireturn, 1) := by decide +kernel
def f_X8_changeCycle (v : StV) (x : Int32) : Int32 × StV := (v.2.1, (v.1, x, v.2.2.1, v.2.2.2.1, v.2.2.2.2.1, v.2.2.2.2.2))
set_option maxHeartbeats 4000000 in
set_option maxRecDepth 100000 in
theorem c_X8_changeCycle (l : Launch) (G : GG) (va : Nat → Nat) (sz : Nat) (v : StV) (x : Int32) : wMet l yX8_changeCycle cX8_changeCycle 3 (some .int) 1 0 0 G (fl [[((va 0), .inr (10, [.int v.1, .int v.2.1, .ref (va 1), .ref (va 6), .ref (va 10), .ref (va 13)]))], wDo G (va 1) (va 2) (va 3) (va 4) (va 5) v.2.2.1, wEx G (va 6) (va 7) (va 8) (va 9) v.2.2.2.1, wPe G (va 10) (va 11) (va 12) v.2.2.2.2.1, wAu G (va 13) (va 14) (va 15) (va 16) (va 17) (va 18) (va 19) v.2.2.2.2.2]) [.ref (va 0), .int x] sz (fun u : Int32 × StV => some (.int u.1)) (fun u : Int32 × StV => u = f_X8_changeCycle v x) (fun u : Int32 × StV => fl [[((va 0), .inr (10, [.int u.2.1, .int u.2.2.1, .ref (va 1), .ref (va 6), .ref (va 10), .ref (va 13)]))], wDo G (va 1) (va 2) (va 3) (va 4) (va 5) u.2.2.2.1, wEx G (va 6) (va 7) (va 8) (va 9) u.2.2.2.2.1, wPe G (va 10) (va 11) (va 12) u.2.2.2.2.2.1, wAu G (va 13) (va 14) (va 15) (va 16) (va 17) (va 18) (va 19) u.2.2.2.2.2.2]) := by
  refine w_start (by decide +kernel) (Nat.le_of_ble_eq_true rfl) ?_
  intro p e s m below meth c A hx hb hr hml hts hown hlk hin hP hD hA hK hST ls hl
  have hS : va_S A s.heap s.heap [] := va_S.rf
  have hown : s.vm.findClass RX8 = some m.cls := hown
  have hl : lv_has ls 3 [(0, .ref (va 0)), (1, .int x)] := hl
  have hF : f_X8_changeCycle v x = (v.2.1, (v.1, x, v.2.2.1, v.2.2.2.1, v.2.2.2.2.1, v.2.2.2.2.2)) := rfl
  refine lv_aload_n hx hb dX8_changeCycle_0 rfl (lv_at hl 0 rfl) ?_
  refine va_get (D := G.1) (ci := 10) (v := .int v.2.1) (C := RX8) (T := TX8) (N := 6) hx hb hts uws_X8 hown hK hP 0 rfl rfl 1 (by decide) (hts _ u_1026) (fun _ h9 => h9) rfl dX8_changeCycle_1 ?_
  refine lv_istore_n (lv' := [(2, .int v.2.1), (0, .ref (va 0)), (1, .int x)]) hx hb dX8_changeCycle_4 rfl hl (by decide) rfl (fun ls hl => ?_)
  refine lv_aload_n hx hb dX8_changeCycle_5 rfl (lv_at hl 1 rfl) ?_
  refine lv_iload_n hx hb dX8_changeCycle_6 rfl (lv_at hl 2 rfl) ?_
  refine va_put (D := G.1) (ci := 10) (v := .int x) (ty := .int) (C := RX8) (T := TX8) (N := 6) hx hb hts uws_X8 tyX8 tyX8_ok nmX8 hown hK hP hD hS 0 rfl rfl 1 (by decide) (hts _ u_1026) (fun _ h9 => h9) rfl (by decide +kernel) rfl rfl (Nat.le_of_ble_eq_true rfl) dX8_changeCycle_7 (fun H locs hP hD hS => ?_)
  have hP : va_P G.1 vwCl (fl [[((va 0), .inr (10, [.int v.1, .int x, .ref (va 1), .ref (va 6), .ref (va 10), .ref (va 13)]))], wDo G (va 1) (va 2) (va 3) (va 4) (va 5) v.2.2.1, wEx G (va 6) (va 7) (va 8) (va 9) v.2.2.2.1, wPe G (va 10) (va 11) (va 12) v.2.2.2.2.1, wAu G (va 13) (va 14) (va 15) (va 16) (va 17) (va 18) (va 19) v.2.2.2.2.2]) H := hP
  have hD : va_D A (fl [[((va 0), .inr (10, [.int v.1, .int x, .ref (va 1), .ref (va 6), .ref (va 10), .ref (va 13)]))], wDo G (va 1) (va 2) (va 3) (va 4) (va 5) v.2.2.1, wEx G (va 6) (va 7) (va 8) (va 9) v.2.2.2.1, wPe G (va 10) (va 11) (va 12) v.2.2.2.2.1, wAu G (va 13) (va 14) (va 15) (va 16) (va 17) (va 18) (va 19) v.2.2.2.2.2]) := hD
  refine lv_iload_n hx hb dX8_changeCycle_10 rfl (lv_at hl 0 rfl) ?_
  exact w_ret (u := (v.2.1, (v.1, x, v.2.2.1, v.2.2.2.1, v.2.2.2.2.1, v.2.2.2.2.2))) hx hb hr hlk rfl hS rfl hF.symm hP hD (Nat.le_of_ble_eq_true rfl) (Nat.le_of_ble_eq_true rfl) dX8_changeCycle_11
theorem dX8_passHours_0 : decode cX8_passHours 0 = .ok (.aload_n 0, 1) := by decide +kernel
theorem dX8_passHours_1 : decode cX8_passHours 1 = .ok (.invokevirtual 72, 3) := by decide +kernel
theorem dX8_passHours_4 : decode cX8_passHours 4 = .ok (.istore_n 2, 1) := by decide +kernel
theorem dX8_passHours_5 : decode cX8_passHours 5 = .ok (.aload_n 0, 1) := by decide +kernel
theorem dX8_passHours_6 : decode cX8_passHours 6 = .ok (.dup, 1) := by decide +kernel
theorem dX8_passHours_7 : decode cX8_passHours 7 = .ok (.getfield 9, 3) := by decide +kernel
theorem dX8_passHours_10 : decode cX8_passHours 10 = .ok (.iload_n 1, 1) := by decide +kernel
theorem dX8_passHours_11 : decode cX8_passHours 11 = .ok (.iadd, 1) := by decide +kernel
theorem dX8_passHours_12 : decode cX8_passHours 12 = .ok (.putfield 9, 3) := by decide +kernel
theorem dX8_passHours_15 : decode cX8_passHours 15 = .ok (.aload_n 0, 1) := by decide +kernel
theorem dX8_passHours_16 : decode cX8_passHours 16 = .ok (.getfield 42, 3) := by decide +kernel
theorem u_1033 : Cond.fieldLink RX8 42 "MoonlitDoors$State" "audits" "LMoonlitDoors$Audits;" ∈ UW := uw 1033 (by decide +kernel) rfl
theorem dX8_passHours_19 : decode cX8_passHours 19 = .ok (.iload_n 2, 1) := by decide +kernel
theorem dX8_passHours_20 : decode cX8_passHours 20 = .ok (.aload_n 0, 1) := by decide +kernel
theorem dX8_passHours_21 : decode cX8_passHours 21 = .ok (.invokevirtual 72, 3) := by decide +kernel
theorem dX8_passHours_24 : decode cX8_passHours 24 = .ok (.invokevirtual 96, 3) := by decide +kernel
theorem u_819 : Cond.methodLink RX8 96 yX0_beginDays ∈ UW := uw 819 (by decide +kernel) rfl
theorem u_820 : Cond.instanceMethod yX0_beginDays ∈ UW := uw 820 (by decide +kernel) rfl
theorem u_821 : Cond.selects RX0 yX0_beginDays yX0_beginDays ∈ UW := uw 821 (by decide +kernel) rfl
theorem u_822 : Cond.code yX0_beginDays cX0_beginDays 5 none ∈ UW := uw 822 (by decide +kernel) rfl
theorem g_X8_96 : GoodIn UW (wsV RX8 96 RX0 yX0_beginDays (wsU yX0_beginDays cX0_beginDays 5 none)) := gV u_819 u_820 u_821 u_26 u_822
theorem hdv_X0_beginDays : yX0_beginDays.cls = RX0 ∧ yX0_beginDays.cls ≠ "java/lang/invoke/MethodHandle" ∧ yX0_beginDays.cls ≠ "java/lang/invoke/VarHandle" ∧ (parseMethodDescriptor yX0_beginDays.desc).map (fun d => d.parameters.length) = some 2 := by decide +kernel
theorem dX8_passHours_27 : decode cX8_passHours 27 = .ok (.aload_n 0, 1) := by decide +kernel
theorem dX8_passHours_28 : decode cX8_passHours 28 = .ok (.invokevirtual 72, 3) := by decide +kernel
theorem dX8_passHours_31 : decode cX8_passHours 31 = .ok (.ireturn, 1) := by decide +kernel
def f_X8_passHours (v : StV) (x : Int32) : Int32 × StV := (let u_4 : AuV := (f_X0_beginDays v.2.2.2.2.2 (f_X8_today v) (f_X8_today ((v.1 + x), v.2.1, v.2.2.1, v.2.2.2.1, v.2.2.2.2.1, v.2.2.2.2.2))); ((f_X8_today ((v.1 + x), v.2.1, v.2.2.1, v.2.2.2.1, v.2.2.2.2.1, u_4)), ((v.1 + x), v.2.1, v.2.2.1, v.2.2.2.1, v.2.2.2.2.1, u_4)))
set_option maxHeartbeats 4000000 in
set_option maxRecDepth 100000 in
theorem c_X8_passHours (l : Launch) (G : GG) (va : Nat → Nat) (sz : Nat) (v : StV) (x : Int32) : wMet l yX8_passHours cX8_passHours 3 (some .int) 4 0 0 G (fl [[((va 0), .inr (10, [.int v.1, .int v.2.1, .ref (va 1), .ref (va 6), .ref (va 10), .ref (va 13)]))], wDo G (va 1) (va 2) (va 3) (va 4) (va 5) v.2.2.1, wEx G (va 6) (va 7) (va 8) (va 9) v.2.2.2.1, wPe G (va 10) (va 11) (va 12) v.2.2.2.2.1, wAu G (va 13) (va 14) (va 15) (va 16) (va 17) (va 18) (va 19) v.2.2.2.2.2]) [.ref (va 0), .int x] sz (fun u : Int32 × StV => some (.int u.1)) (fun u : Int32 × StV => u = f_X8_passHours v x) (fun u : Int32 × StV => fl [[((va 0), .inr (10, [.int u.2.1, .int u.2.2.1, .ref (va 1), .ref (va 6), .ref (va 10), .ref (va 13)]))], wDo G (va 1) (va 2) (va 3) (va 4) (va 5) u.2.2.2.1, wEx G (va 6) (va 7) (va 8) (va 9) u.2.2.2.2.1, wPe G (va 10) (va 11) (va 12) u.2.2.2.2.2.1, wAu G (va 13) (va 14) (va 15) (va 16) (va 17) (va 18) (va 19) u.2.2.2.2.2.2]) := by
  refine w_start (by decide +kernel) (Nat.le_of_ble_eq_true rfl) ?_
  intro p e s m below meth c A hx hb hr hml hts hown hlk hin hP hD hA hK hST ls hl
  have hS : va_S A s.heap s.heap [] := va_S.rf
  have hown : s.vm.findClass RX8 = some m.cls := hown
  have hl : lv_has ls 3 [(0, .ref (va 0)), (1, .int x)] := hl
  have hF : f_X8_passHours v x = (let u_4 : AuV := (f_X0_beginDays v.2.2.2.2.2 (f_X8_today v) (f_X8_today ((v.1 + x), v.2.1, v.2.2.1, v.2.2.2.1, v.2.2.2.2.1, v.2.2.2.2.2))); ((f_X8_today ((v.1 + x), v.2.1, v.2.2.1, v.2.2.2.1, v.2.2.2.2.1, u_4)), ((v.1 + x), v.2.1, v.2.2.1, v.2.2.2.1, v.2.2.2.2.1, u_4))) := rfl
  refine lv_aload_n hx hb dX8_passHours_0 rfl (lv_at hl 0 rfl) ?_
  refine r_V (own := RX8) (v := (some (.int (f_X8_today v)))) (st1 := [.int (f_X8_today v)]) (As := []) (rest := []) (c_X8_today l G va v) ⟨hx, hb, hml, hown, hts⟩ g_X8_72 hdv_X8_today hK hST hS hP [0, 1, 2, 3, 4, 5, 6, 7, 8, 9, 10, 11, 12, 13, 14, 15, 16, 17, 18, 19] rfl (k0 := 0) rfl rfl rfl ⟨Nat.le_of_ble_eq_true rfl, Nat.le_of_ble_eq_true rfl⟩ ⟨Nat.le_of_ble_eq_true rfl, Nat.le_of_ble_eq_true rfl⟩ rfl hl.1 rfl (Nat.le_of_ble_eq_true rfl) dX8_passHours_1 rfl (fun b_1 => ?_)
  refine lv_istore_n (lv' := [(2, .int (f_X8_today v)), (0, .ref (va 0)), (1, .int x)]) hx hb dX8_passHours_4 rfl hl (by decide) rfl (fun ls hl => ?_)
  refine lv_aload_n hx hb dX8_passHours_5 rfl (lv_at hl 1 rfl) ?_
  refine lv_dup hx hb dX8_passHours_6 rfl ?_
  refine va_get (D := G.1) (ci := 10) (v := .int v.1) (C := RX8) (T := TX8) (N := 6) hx hb hts uws_X8 hown hK hP 0 rfl rfl 0 (by decide) (hts _ u_1024) (fun _ h9 => h9) rfl dX8_passHours_7 ?_
  refine lv_iload_n hx hb dX8_passHours_10 rfl (lv_at hl 2 rfl) ?_
  refine lv_iadd hx hb dX8_passHours_11 ?_
  refine va_put (D := G.1) (ci := 10) (v := .int (v.1 + x)) (ty := .int) (C := RX8) (T := TX8) (N := 6) hx hb hts uws_X8 tyX8 tyX8_ok nmX8 hown hK hP hD hS 0 rfl rfl 0 (by decide) (hts _ u_1024) (fun _ h9 => h9) rfl (by decide +kernel) rfl rfl (Nat.le_of_ble_eq_true rfl) dX8_passHours_12 (fun H locs hP hD hS => ?_)
  have hP : va_P G.1 vwCl (fl [[((va 0), .inr (10, [.int (v.1 + x), .int v.2.1, .ref (va 1), .ref (va 6), .ref (va 10), .ref (va 13)]))], wDo G (va 1) (va 2) (va 3) (va 4) (va 5) v.2.2.1, wEx G (va 6) (va 7) (va 8) (va 9) v.2.2.2.1, wPe G (va 10) (va 11) (va 12) v.2.2.2.2.1, wAu G (va 13) (va 14) (va 15) (va 16) (va 17) (va 18) (va 19) v.2.2.2.2.2]) H := hP
  have hD : va_D A (fl [[((va 0), .inr (10, [.int (v.1 + x), .int v.2.1, .ref (va 1), .ref (va 6), .ref (va 10), .ref (va 13)]))], wDo G (va 1) (va 2) (va 3) (va 4) (va 5) v.2.2.1, wEx G (va 6) (va 7) (va 8) (va 9) v.2.2.2.1, wPe G (va 10) (va 11) (va 12) v.2.2.2.2.1, wAu G (va 13) (va 14) (va 15) (va 16) (va 17) (va 18) (va 19) v.2.2.2.2.2]) := hD
  refine lv_aload_n hx hb dX8_passHours_15 rfl (lv_at hl 1 rfl) ?_
  refine va_get (D := G.1) (ci := 10) (v := .ref (va 13)) (C := RX8) (T := TX8) (N := 6) hx hb hts uws_X8 hown hK hP 0 rfl rfl 5 (by decide) (hts _ u_1033) (fun _ h9 => h9) rfl dX8_passHours_16 ?_
  refine lv_iload_n hx hb dX8_passHours_19 rfl (lv_at hl 0 rfl) ?_
  refine lv_aload_n hx hb dX8_passHours_20 rfl (lv_at hl 1 rfl) ?_
  refine r_V (own := RX8) (v := (some (.int (f_X8_today ((v.1 + x), v.2.1, v.2.2.1, v.2.2.2.1, v.2.2.2.2.1, v.2.2.2.2.2))))) (st1 := [.int (f_X8_today ((v.1 + x), v.2.1, v.2.2.1, v.2.2.2.1, v.2.2.2.2.1, v.2.2.2.2.2)), .int (f_X8_today v), .ref (va 13)]) (As := []) (rest := [.int (f_X8_today v), .ref (va 13)]) (c_X8_today l G va ((v.1 + x), v.2.1, v.2.2.1, v.2.2.2.1, v.2.2.2.2.1, v.2.2.2.2.2)) ⟨hx, hb, hml, hown, hts⟩ g_X8_72 hdv_X8_today hK hST hS hP [0, 1, 2, 3, 4, 5, 6, 7, 8, 9, 10, 11, 12, 13, 14, 15, 16, 17, 18, 19] rfl (k0 := 0) rfl rfl rfl ⟨Nat.le_of_ble_eq_true rfl, Nat.le_of_ble_eq_true rfl⟩ ⟨Nat.le_of_ble_eq_true rfl, Nat.le_of_ble_eq_true rfl⟩ rfl hl.1 rfl (Nat.le_of_ble_eq_true rfl) dX8_passHours_21 rfl (fun b_2 => ?_)
  refine w_V (own := RX8) (cs := [wAu G (va 13) (va 14) (va 15) (va 16) (va 17) (va 18) (va 19) v.2.2.2.2.2]) (rs := [[((va 0), .inr (10, [.int (v.1 + x), .int v.2.1, .ref (va 1), .ref (va 6), .ref (va 10), .ref (va 13)]))], wDo G (va 1) (va 2) (va 3) (va 4) (va 5) v.2.2.1, wEx G (va 6) (va 7) (va 8) (va 9) v.2.2.2.1, wPe G (va 10) (va 11) (va 12) v.2.2.2.2.1]) (As := [.int (f_X8_today v), .int (f_X8_today ((v.1 + x), v.2.1, v.2.2.1, v.2.2.2.1, v.2.2.2.2.1, v.2.2.2.2.2))]) (rest := []) (c_X0_beginDays l G (va 13) (va 14) (va 15) (va 16) (va 17) (va 18) (va 19) H.size v.2.2.2.2.2 (f_X8_today v) (f_X8_today ((v.1 + x), v.2.1, v.2.2.1, v.2.2.2.1, v.2.2.2.2.1, v.2.2.2.2.2))) ⟨hx, hb, hml, hown, hts⟩ g_X8_96 hdv_X0_beginDays hK hST hS hP hD hA [4] [0, 1, 2, 3] rfl rfl rfl (k0 := 0) rfl rfl rfl ⟨Nat.le_of_ble_eq_true rfl, Nat.le_of_ble_eq_true rfl⟩ ⟨Nat.le_of_ble_eq_true rfl, Nat.le_of_ble_eq_true rfl⟩ rfl hl.1 rfl (Nat.le_of_ble_eq_true rfl) dX8_passHours_24 (fun u_4 H locs huu hP hD hS => ?_)
  have eu_4 := huu
  have hP : va_P G.1 vwCl (fl [wAu G (va 13) (va 14) (va 15) (va 16) (va 17) (va 18) (va 19) u_4, [((va 0), .inr (10, [.int (v.1 + x), .int v.2.1, .ref (va 1), .ref (va 6), .ref (va 10), .ref (va 13)]))], wDo G (va 1) (va 2) (va 3) (va 4) (va 5) v.2.2.1, wEx G (va 6) (va 7) (va 8) (va 9) v.2.2.2.1, wPe G (va 10) (va 11) (va 12) v.2.2.2.2.1]) H := hP
  have hD : va_D A (fl [wAu G (va 13) (va 14) (va 15) (va 16) (va 17) (va 18) (va 19) u_4, [((va 0), .inr (10, [.int (v.1 + x), .int v.2.1, .ref (va 1), .ref (va 6), .ref (va 10), .ref (va 13)]))], wDo G (va 1) (va 2) (va 3) (va 4) (va 5) v.2.2.1, wEx G (va 6) (va 7) (va 8) (va 9) v.2.2.2.1, wPe G (va 10) (va 11) (va 12) v.2.2.2.2.1]) := hD
  refine W.eq (g2 := F0 m 27 ls []) rfl ?_
  have hF : f_X8_passHours v x = ((f_X8_today ((v.1 + x), v.2.1, v.2.2.1, v.2.2.2.1, v.2.2.2.2.1, u_4)), ((v.1 + x), v.2.1, v.2.2.1, v.2.2.2.1, v.2.2.2.2.1, u_4)) := by subst eu_4; exact hF
  refine lv_aload_n hx hb dX8_passHours_27 rfl (lv_at hl 1 rfl) ?_
  refine r_V (own := RX8) (v := (some (.int (f_X8_today ((v.1 + x), v.2.1, v.2.2.1, v.2.2.2.1, v.2.2.2.2.1, u_4))))) (st1 := [.int (f_X8_today ((v.1 + x), v.2.1, v.2.2.1, v.2.2.2.1, v.2.2.2.2.1, u_4))]) (As := []) (rest := []) (c_X8_today l G va ((v.1 + x), v.2.1, v.2.2.1, v.2.2.2.1, v.2.2.2.2.1, u_4)) ⟨hx, hb, hml, hown, hts⟩ g_X8_72 hdv_X8_today hK hST hS hP [7, 8, 9, 10, 11, 12, 13, 14, 15, 16, 17, 18, 19, 0, 1, 2, 3, 4, 5, 6] rfl (k0 := 0) rfl rfl rfl ⟨Nat.le_of_ble_eq_true rfl, Nat.le_of_ble_eq_true rfl⟩ ⟨Nat.le_of_ble_eq_true rfl, Nat.le_of_ble_eq_true rfl⟩ rfl hl.1 rfl (Nat.le_of_ble_eq_true rfl) dX8_passHours_28 rfl (fun b_5 => ?_)
  have hP := fl_sub (cs := [[((va 0), .inr (10, [.int (v.1 + x), .int v.2.1, .ref (va 1), .ref (va 6), .ref (va 10), .ref (va 13)]))], wDo G (va 1) (va 2) (va 3) (va 4) (va 5) v.2.2.1, wEx G (va 6) (va 7) (va 8) (va 9) v.2.2.2.1, wPe G (va 10) (va 11) (va 12) v.2.2.2.2.1, wAu G (va 13) (va 14) (va 15) (va 16) (va 17) (va 18) (va 19) u_4]) [1, 2, 3, 4, 0] rfl hP
  have hD := fl_subD (cs := [[((va 0), .inr (10, [.int (v.1 + x), .int v.2.1, .ref (va 1), .ref (va 6), .ref (va 10), .ref (va 13)]))], wDo G (va 1) (va 2) (va 3) (va 4) (va 5) v.2.2.1, wEx G (va 6) (va 7) (va 8) (va 9) v.2.2.2.1, wPe G (va 10) (va 11) (va 12) v.2.2.2.2.1, wAu G (va 13) (va 14) (va 15) (va 16) (va 17) (va 18) (va 19) u_4]) [1, 2, 3, 4, 0] rfl rfl hD
  exact w_ret (u := ((f_X8_today ((v.1 + x), v.2.1, v.2.2.1, v.2.2.2.1, v.2.2.2.2.1, u_4)), ((v.1 + x), v.2.1, v.2.2.1, v.2.2.2.1, v.2.2.2.2.1, u_4))) hx hb hr hlk rfl hS rfl hF.symm hP hD (Nat.le_of_ble_eq_true rfl) (Nat.le_of_ble_eq_true rfl) dX8_passHours_31
theorem dX8_phaseFor_0 : decode cX8_phaseFor 0 = .ok (.aload_n 0, 1) := by decide +kernel
theorem dX8_phaseFor_1 : decode cX8_phaseFor 1 = .ok (.getfield 15, 3) := by decide +kernel
theorem dX8_phaseFor_4 : decode cX8_phaseFor 4 = .ok (.ifCond .gt 5, 3) := by decide +kernel
theorem dX8_phaseFor_9 : decode cX8_phaseFor 9 = .ok (.iload_n 1, 1) := by decide +kernel
theorem dX8_phaseFor_10 : decode cX8_phaseFor 10 = .ok (.aload_n 0, 1) := by decide +kernel
theorem dX8_phaseFor_11 : decode cX8_phaseFor 11 = .ok (.getfield 15, 3) := by decide +kernel
theorem dX8_phaseFor_14 : decode cX8_phaseFor 14 = .ok (.invokestatic 93, 3) := by decide +kernel
theorem dX8_phaseFor_17 : decode cX8_phaseFor 17 = .ok (.bipush 8, 2) := by decide +kernel
theorem dX8_phaseFor_19 : decode cX8_phaseFor 19 = .ok (.imul, 1) := by decide +kernel
theorem dX8_phaseFor_20 : decode cX8_phaseFor 20 = .ok (.aload_n 0, 1) := by decide +kernel
theorem dX8_phaseFor_21 : decode cX8_phaseFor 21 = .ok (.getfield 15, 3) := by decide +kernel
theorem dX8_phaseFor_24 : decode cX8_phaseFor 24 = .ok (.idiv, 1) := by decide +kernel
theorem dX8_phaseFor_25 : decode cX8_phaseFor 25 = .ok (.ireturn, 1) := by decide +kernel
theorem dX8_phaseFor_7 : decode cX8_phaseFor 7 = .ok (.iconst 0, 1) := by decide +kernel
theorem dX8_phaseFor_8 : decode cX8_phaseFor 8 = .ok (.ireturn, 1) := by decide +kernel
def f_X8_phaseFor (v : StV) (dy : Int32) : Int32 := (if (0 : Int32) < v.2.1 then (((f_J9_floorMod_7cf53 dy v.2.1) * (8 : Int32)) / v.2.1) else (0 : Int32))
set_option maxHeartbeats 4000000 in
set_option maxRecDepth 100000 in
theorem c_X8_phaseFor (l : Launch) (G : GG) (va : Nat → Nat) (v : StV) (dy : Int32) : rMet l yX8_phaseFor cX8_phaseFor 2 (some .int) 2 G (fl [[((va 0), .inr (10, [.int v.1, .int v.2.1, .ref (va 1), .ref (va 6), .ref (va 10), .ref (va 13)]))], wDo G (va 1) (va 2) (va 3) (va 4) (va 5) v.2.2.1, wEx G (va 6) (va 7) (va 8) (va 9) v.2.2.2.1, wPe G (va 10) (va 11) (va 12) v.2.2.2.2.1, wAu G (va 13) (va 14) (va 15) (va 16) (va 17) (va 18) (va 19) v.2.2.2.2.2]) [.ref (va 0), .int dy] (some (.int (f_X8_phaseFor v dy))) (True) := by
  refine r_start (by decide +kernel) (Nat.le_of_ble_eq_true rfl) ?_
  intro p e s m below meth c hx hb hr hml hts hown hlk hP hK hST ls hl
  have hS : va_S (fun _ => False) s.heap s.heap [] := va_S.rf
  have hown : s.vm.findClass RX8 = some m.cls := hown
  have hl : lv_has ls 2 [(0, .ref (va 0)), (1, .int dy)] := hl
  have hF : f_X8_phaseFor v dy = (if (0 : Int32) < v.2.1 then (((f_J9_floorMod_7cf53 dy v.2.1) * (8 : Int32)) / v.2.1) else (0 : Int32)) := rfl
  refine lv_aload_n hx hb dX8_phaseFor_0 rfl (lv_at hl 0 rfl) ?_
  refine va_get (D := G.1) (ci := 10) (v := .int v.2.1) (C := RX8) (T := TX8) (N := 6) hx hb hts uws_X8 hown hK hP 0 rfl rfl 1 (by decide) (hts _ u_1026) (fun _ h9 => h9) rfl dX8_phaseFor_1 ?_
  refine lv_if_gt (tgt := 9) hx hb dX8_phaseFor_4 (by decide) (fun c_1 => ?_) (fun c_1 => ?_)
  · have hF := hF.trans (if_pos c_1)
    refine lv_iload_n hx hb dX8_phaseFor_9 rfl (lv_at hl 1 rfl) ?_
    refine lv_aload_n hx hb dX8_phaseFor_10 rfl (lv_at hl 0 rfl) ?_
    refine va_get (D := G.1) (ci := 10) (v := .int v.2.1) (C := RX8) (T := TX8) (N := 6) hx hb hts uws_X8 hown hK hP 0 rfl rfl 1 (by decide) (hts _ u_1026) (fun _ h9 => h9) rfl dX8_phaseFor_11 ?_
    refine r_S (own := RX8) (v := (some (.int (f_J9_floorMod_7cf53 dy v.2.1)))) (st1 := [.int (f_J9_floorMod_7cf53 dy v.2.1)]) (As := [.int dy, .int v.2.1]) (rest := []) (c_J9_floorMod_7cf53 l G dy v.2.1 (fun e => absurd c_1 (by rw [e]; decide))) ⟨hx, hb, hml, hown, hts⟩ g_X8_93 hds_J9_floorMod_7cf53 hK hST hS hP [] rfl ⟨Nat.le_of_ble_eq_true rfl, Nat.le_of_ble_eq_true rfl⟩ ⟨Nat.le_of_ble_eq_true rfl, Nat.le_of_ble_eq_true rfl⟩ rfl hl.1 rfl (Nat.le_of_ble_eq_true rfl) dX8_phaseFor_14 rfl (fun b_2 => ?_)
    refine lv_bipush (v := (8 : Int32)) hx hb dX8_phaseFor_17 (by decide) ?_
    refine lv_imul hx hb dX8_phaseFor_19 ?_
    refine lv_aload_n hx hb dX8_phaseFor_20 rfl (lv_at hl 0 rfl) ?_
    refine va_get (D := G.1) (ci := 10) (v := .int v.2.1) (C := RX8) (T := TX8) (N := 6) hx hb hts uws_X8 hown hK hP 0 rfl rfl 1 (by decide) (hts _ u_1026) (fun _ h9 => h9) rfl dX8_phaseFor_21 ?_
    refine lv_idiv hx hb dX8_phaseFor_24 (fun e => absurd c_1 (by rw [e]; decide)) ?_
    exact r_ret hx hb hr hlk rfl (by rw [hF]) trivial dX8_phaseFor_25
  · have hF := hF.trans (if_neg c_1)
    refine lv_iconst (v := (0 : Int32)) hx hb dX8_phaseFor_7 (by decide) ?_
    exact r_ret hx hb hr hlk rfl (by rw [hF]) trivial dX8_phaseFor_8
theorem dX8_daysToPhase_0 : decode cX8_daysToPhase 0 = .ok (.iconst 1, 1) := by decide +kernel
theorem dX8_daysToPhase_1 : decode cX8_daysToPhase 1 = .ok (.istore_n 2, 1) := by decide +kernel
theorem dX8_daysToPhase_2 : decode cX8_daysToPhase 2 = .ok (.iload_n 2, 1) := by decide +kernel
theorem dX8_daysToPhase_3 : decode cX8_daysToPhase 3 = .ok (.aload_n 0, 1) := by decide +kernel
theorem dX8_daysToPhase_4 : decode cX8_daysToPhase 4 = .ok (.getfield 15, 3) := by decide +kernel
theorem dX8_daysToPhase_7 : decode cX8_daysToPhase 7 = .ok (.if_icmp .ge 23, 3) := by decide +kernel
theorem dX8_daysToPhase_30 : decode cX8_daysToPhase 30 = .ok (.iload_n 2, 1) := by decide +kernel
theorem dX8_daysToPhase_31 : decode cX8_daysToPhase 31 = .ok (.ireturn, 1) := by decide +kernel
theorem dX8_daysToPhase_10 : decode cX8_daysToPhase 10 = .ok (.aload_n 0, 1) := by decide +kernel
theorem dX8_daysToPhase_11 : decode cX8_daysToPhase 11 = .ok (.aload_n 0, 1) := by decide +kernel
theorem dX8_daysToPhase_12 : decode cX8_daysToPhase 12 = .ok (.invokevirtual 72, 3) := by decide +kernel
theorem dX8_daysToPhase_15 : decode cX8_daysToPhase 15 = .ok (.iload_n 2, 1) := by decide +kernel
theorem dX8_daysToPhase_16 : decode cX8_daysToPhase 16 = .ok (.iadd, 1) := by decide +kernel
theorem dX8_daysToPhase_17 : decode cX8_daysToPhase 17 = .ok (.invokevirtual 100, 3) := by decide +kernel
theorem u_532 : Cond.methodLink RX8 100 yX8_phaseFor ∈ UW := uw 532 (by decide +kernel) rfl
theorem u_533 : Cond.instanceMethod yX8_phaseFor ∈ UW := uw 533 (by decide +kernel) rfl
theorem u_534 : Cond.selects RX8 yX8_phaseFor yX8_phaseFor ∈ UW := uw 534 (by decide +kernel) rfl
theorem u_535 : Cond.code yX8_phaseFor cX8_phaseFor 2 (some .int) ∈ UW := uw 535 (by decide +kernel) rfl
theorem g_X8_100 : GoodIn UW (wsV RX8 100 RX8 yX8_phaseFor (wsU yX8_phaseFor cX8_phaseFor 2 (some .int))) := gV u_532 u_533 u_534 u_22 u_535
theorem hdv_X8_phaseFor : yX8_phaseFor.cls = RX8 ∧ yX8_phaseFor.cls ≠ "java/lang/invoke/MethodHandle" ∧ yX8_phaseFor.cls ≠ "java/lang/invoke/VarHandle" ∧ (parseMethodDescriptor yX8_phaseFor.desc).map (fun d => d.parameters.length) = some 1 := by decide +kernel
theorem dX8_daysToPhase_20 : decode cX8_daysToPhase 20 = .ok (.iload_n 1, 1) := by decide +kernel
theorem dX8_daysToPhase_21 : decode cX8_daysToPhase 21 = .ok (.if_icmp .eq 9, 3) := by decide +kernel
theorem dX8_daysToPhase_24 : decode cX8_daysToPhase 24 = .ok (.iinc 2 1, 3) := by decide +kernel
theorem dX8_daysToPhase_27 : decode cX8_daysToPhase 27 = .ok (.goto (-25), 3) := by decide +kernel
def lp_X8_daysToPhase_2 (v : StV) (ph : Int32) : Nat → Int32 → Int32
  | 0, _ => 0
  | n + 1, x2 => (if v.2.1 ≤ x2 then x2 else (if (f_X8_phaseFor v ((f_X8_today v) + x2)) = ph then x2 else (lp_X8_daysToPhase_2 v ph n (x2 + 1))))
def f_X8_daysToPhase (v : StV) (ph : Int32) : Int32 := (lp_X8_daysToPhase_2 v ph (((v.2.1).toInt - ((1 : Int32)).toInt).toNat + 1) (1 : Int32))
set_option maxHeartbeats 4000000 in
set_option maxRecDepth 100000 in
theorem c_X8_daysToPhase (l : Launch) (G : GG) (va : Nat → Nat) (v : StV) (ph : Int32) : rMet l yX8_daysToPhase cX8_daysToPhase 3 (some .int) 3 G (fl [[((va 0), .inr (10, [.int v.1, .int v.2.1, .ref (va 1), .ref (va 6), .ref (va 10), .ref (va 13)]))], wDo G (va 1) (va 2) (va 3) (va 4) (va 5) v.2.2.1, wEx G (va 6) (va 7) (va 8) (va 9) v.2.2.2.1, wPe G (va 10) (va 11) (va 12) v.2.2.2.2.1, wAu G (va 13) (va 14) (va 15) (va 16) (va 17) (va 18) (va 19) v.2.2.2.2.2]) [.ref (va 0), .int ph] (some (.int (f_X8_daysToPhase v ph))) (True) := by
  refine r_start (by decide +kernel) (Nat.le_of_ble_eq_true rfl) ?_
  intro p e s m below meth c hx hb hr hml hts hown hlk hP hK hST ls hl
  have hS : va_S (fun _ => False) s.heap s.heap [] := va_S.rf
  have hown : s.vm.findClass RX8 = some m.cls := hown
  have hl : lv_has ls 3 [(0, .ref (va 0)), (1, .int ph)] := hl
  have hF : f_X8_daysToPhase v ph = (lp_X8_daysToPhase_2 v ph (((v.2.1).toInt - ((1 : Int32)).toInt).toNat + 1) (1 : Int32)) := rfl
  refine lv_iconst (v := (1 : Int32)) hx hb dX8_daysToPhase_0 (by decide) ?_
  refine lv_istore_n (lv' := [(2, .int (1 : Int32)), (0, .ref (va 0)), (1, .int ph)]) hx hb dX8_daysToPhase_1 rfl hl (by decide) rfl (fun ls hl => ?_)
  have L2 : ∀ (n : Nat) (x2 : Int32) (ls : Array Slot), lv_has ls 3 [(2, .int x2), (0, .ref (va 0)), (1, .int ph)] → (upI x2 v.2.1 n) → f_X8_daysToPhase v ph = lp_X8_daysToPhase_2 v ph n x2 → W p l e (rmd 3 0 0) s m ([.ref (va 0), .int ph] : List Value).toArray below meth c s.heap [] 0 0 (MQ below (rQ (some (.int (f_X8_daysToPhase v ph))) (True)) ([.ref (va 0), .int ph] : List Value).toArray s 0 0 (fun _ => False)) (F0 m 2 ls []) := by
    intro n
    induction n with
    | zero => intro x2 ls hl hu; exact absurd hu (upI_0)
    | succ n ih =>
      intro x2 ls hl hu hF
      have hF : f_X8_daysToPhase v ph = (if v.2.1 ≤ x2 then x2 else (if (f_X8_phaseFor v ((f_X8_today v) + x2)) = ph then x2 else (lp_X8_daysToPhase_2 v ph n (x2 + 1)))) := hF
      refine lv_iload_n hx hb dX8_daysToPhase_2 rfl (lv_at hl 0 rfl) ?_
      refine lv_aload_n hx hb dX8_daysToPhase_3 rfl (lv_at hl 1 rfl) ?_
      refine va_get (D := G.1) (ci := 10) (v := .int v.2.1) (C := RX8) (T := TX8) (N := 6) hx hb hts uws_X8 hown hK hP 0 rfl rfl 1 (by decide) (hts _ u_1026) (fun _ h9 => h9) rfl dX8_daysToPhase_4 ?_
      refine lv_icmp_ge (tgt := 30) hx hb dX8_daysToPhase_7 (by decide) (fun c_1 => ?_) (fun c_1 => ?_)
      · have hF := hF.trans (if_pos c_1)
        refine lv_iload_n hx hb dX8_daysToPhase_30 rfl (lv_at hl 0 rfl) ?_
        exact r_ret hx hb hr hlk rfl (by rw [hF]) trivial dX8_daysToPhase_31
      · have hF := hF.trans (if_neg c_1)
        refine lv_aload_n hx hb dX8_daysToPhase_10 rfl (lv_at hl 1 rfl) ?_
        refine lv_aload_n hx hb dX8_daysToPhase_11 rfl (lv_at hl 1 rfl) ?_
        refine r_V (own := RX8) (v := (some (.int (f_X8_today v)))) (st1 := [.int (f_X8_today v), .ref (va 0)]) (As := []) (rest := [.ref (va 0)]) (c_X8_today l G va v) ⟨hx, hb, hml, hown, hts⟩ g_X8_72 hdv_X8_today hK hST hS hP [0, 1, 2, 3, 4, 5, 6, 7, 8, 9, 10, 11, 12, 13, 14, 15, 16, 17, 18, 19] rfl (k0 := 0) rfl rfl rfl ⟨Nat.le_of_ble_eq_true rfl, Nat.le_of_ble_eq_true rfl⟩ ⟨Nat.le_of_ble_eq_true rfl, Nat.le_of_ble_eq_true rfl⟩ rfl hl.1 rfl (Nat.le_of_ble_eq_true rfl) dX8_daysToPhase_12 rfl (fun b_2 => ?_)
        refine lv_iload_n hx hb dX8_daysToPhase_15 rfl (lv_at hl 0 rfl) ?_
        refine lv_iadd hx hb dX8_daysToPhase_16 ?_
        refine r_V (own := RX8) (v := (some (.int (f_X8_phaseFor v ((f_X8_today v) + x2))))) (st1 := [.int (f_X8_phaseFor v ((f_X8_today v) + x2))]) (As := [.int ((f_X8_today v) + x2)]) (rest := []) (c_X8_phaseFor l G va v ((f_X8_today v) + x2)) ⟨hx, hb, hml, hown, hts⟩ g_X8_100 hdv_X8_phaseFor hK hST hS hP [0, 1, 2, 3, 4, 5, 6, 7, 8, 9, 10, 11, 12, 13, 14, 15, 16, 17, 18, 19] rfl (k0 := 0) rfl rfl rfl ⟨Nat.le_of_ble_eq_true rfl, Nat.le_of_ble_eq_true rfl⟩ ⟨Nat.le_of_ble_eq_true rfl, Nat.le_of_ble_eq_true rfl⟩ rfl hl.1 rfl (Nat.le_of_ble_eq_true rfl) dX8_daysToPhase_17 rfl (fun b_3 => ?_)
        refine lv_iload_n hx hb dX8_daysToPhase_20 rfl (lv_at hl 2 rfl) ?_
        refine lv_icmp_eq (tgt := 30) hx hb dX8_daysToPhase_21 (by decide) (fun c_4 => ?_) (fun c_4 => ?_)
        · have hF := hF.trans (if_pos c_4)
          refine lv_iload_n hx hb dX8_daysToPhase_30 rfl (lv_at hl 0 rfl) ?_
          exact r_ret hx hb hr hlk rfl (by rw [hF]) trivial dX8_daysToPhase_31
        · have hF := hF.trans (if_neg c_4)
          refine lv_iinc (v := (x2 + 1)) (lv' := [(2, .int (x2 + 1)), (0, .ref (va 0)), (1, .int ph)]) hx hb dX8_daysToPhase_24 hl (k := 0) rfl rfl (by decide) rfl (fun ls hl => ?_)
          refine lv_goto (tgt := 2) hx hb dX8_daysToPhase_27 (by decide) ?_
          exact ih (x2 + 1) ls (lv_sub hl [0, 1, 2] rfl) (upI_s (Int32.not_le.mp c_1) hu) hF
  exact L2 (((v.2.1).toInt - ((1 : Int32)).toInt).toNat + 1) (1 : Int32) ls (lv_sub hl [0, 1, 2] rfl) (upI_i) hF
theorem dX8_resultFor_0 : decode cX8_resultFor 0 = .ok (.aload_n 0, 1) := by decide +kernel
theorem dX8_resultFor_1 : decode cX8_resultFor 1 = .ok (.invokevirtual 72, 3) := by decide +kernel
theorem dX8_resultFor_4 : decode cX8_resultFor 4 = .ok (.istore_n 3, 1) := by decide +kernel
theorem dX8_resultFor_5 : decode cX8_resultFor 5 = .ok (.aload_n 0, 1) := by decide +kernel
theorem dX8_resultFor_6 : decode cX8_resultFor 6 = .ok (.getfield 28, 3) := by decide +kernel
theorem dX8_resultFor_9 : decode cX8_resultFor 9 = .ok (.aload_n 0, 1) := by decide +kernel
theorem dX8_resultFor_10 : decode cX8_resultFor 10 = .ok (.getfield 28, 3) := by decide +kernel
theorem dX8_resultFor_13 : decode cX8_resultFor 13 = .ok (.iload_n 2, 1) := by decide +kernel
theorem dX8_resultFor_14 : decode cX8_resultFor 14 = .ok (.iload_n 3, 1) := by decide +kernel
theorem dX8_resultFor_15 : decode cX8_resultFor 15 = .ok (.invokevirtual 79, 3) := by decide +kernel
theorem dX8_resultFor_18 : decode cX8_resultFor 18 = .ok (.invokevirtual 115, 3) := by decide +kernel
theorem u_524 : Cond.methodLink RX8 115 yX1_effectAt ∈ UW := uw 524 (by decide +kernel) rfl
theorem g_X8_115 : GoodIn UW (wsV RX8 115 RX1 yX1_effectAt (wsU yX1_effectAt cX1_effectAt 2 (some .int))) := gV u_524 u_525 u_526 u_24 u_527
theorem dX8_resultFor_21 : decode cX8_resultFor 21 = .ok (.istore 4, 2) := by decide +kernel
theorem dX8_resultFor_23 : decode cX8_resultFor 23 = .ok (.iload 4, 2) := by decide +kernel
theorem dX8_resultFor_25 : decode cX8_resultFor 25 = .ok (.iconst 2, 1) := by decide +kernel
theorem dX8_resultFor_26 : decode cX8_resultFor 26 = .ok (.if_icmp .ne 5, 3) := by decide +kernel
theorem dX8_resultFor_31 : decode cX8_resultFor 31 = .ok (.aload_n 0, 1) := by decide +kernel
theorem dX8_resultFor_32 : decode cX8_resultFor 32 = .ok (.getfield 35, 3) := by decide +kernel
theorem dX8_resultFor_35 : decode cX8_resultFor 35 = .ok (.iload_n 1, 1) := by decide +kernel
theorem dX8_resultFor_36 : decode cX8_resultFor 36 = .ok (.aload_n 0, 1) := by decide +kernel
theorem dX8_resultFor_37 : decode cX8_resultFor 37 = .ok (.getfield 21, 3) := by decide +kernel
theorem dX8_resultFor_40 : decode cX8_resultFor 40 = .ok (.iload_n 2, 1) := by decide +kernel
theorem dX8_resultFor_41 : decode cX8_resultFor 41 = .ok (.invokevirtual 118, 3) := by decide +kernel
theorem u_743 : Cond.methodLink RX8 118 yX2_keyFor ∈ UW := uw 743 (by decide +kernel) rfl
theorem u_744 : Cond.instanceMethod yX2_keyFor ∈ UW := uw 744 (by decide +kernel) rfl
theorem u_745 : Cond.selects RX2 yX2_keyFor yX2_keyFor ∈ UW := uw 745 (by decide +kernel) rfl
theorem u_746 : Cond.code yX2_keyFor cX2_keyFor 2 (some .int) ∈ UW := uw 746 (by decide +kernel) rfl
theorem g_X8_118 : GoodIn UW (wsV RX8 118 RX2 yX2_keyFor (wsU yX2_keyFor cX2_keyFor 2 (some .int))) := gV u_743 u_744 u_745 u_23 u_746
theorem hdv_X2_keyFor : yX2_keyFor.cls = RX2 ∧ yX2_keyFor.cls ≠ "java/lang/invoke/MethodHandle" ∧ yX2_keyFor.cls ≠ "java/lang/invoke/VarHandle" ∧ (parseMethodDescriptor yX2_keyFor.desc).map (fun d => d.parameters.length) = some 1 := by decide +kernel
theorem dX8_resultFor_44 : decode cX8_resultFor 44 = .ok (.invokevirtual 121, 3) := by decide +kernel
theorem u_747 : Cond.methodLink RX8 121 yX5_ringContains ∈ UW := uw 747 (by decide +kernel) rfl
theorem g_X8_121 : GoodIn UW (wsV RX8 121 RX5 yX5_ringContains (wsU yX5_ringContains cX5_ringContains 3 (some .boolean))) := gV u_747 u_748 u_749 u_25 u_750
theorem dX8_resultFor_47 : decode cX8_resultFor 47 = .ok (.ifCond .ne 5, 3) := by decide +kernel
theorem dX8_resultFor_52 : decode cX8_resultFor 52 = .ok (.iload 4, 2) := by decide +kernel
theorem dX8_resultFor_54 : decode cX8_resultFor 54 = .ok (.iconst 1, 1) := by decide +kernel
theorem dX8_resultFor_55 : decode cX8_resultFor 55 = .ok (.if_icmp .ne 5, 3) := by decide +kernel
theorem dX8_resultFor_60 : decode cX8_resultFor 60 = .ok (.aload_n 0, 1) := by decide +kernel
theorem dX8_resultFor_61 : decode cX8_resultFor 61 = .ok (.getfield 21, 3) := by decide +kernel
theorem dX8_resultFor_64 : decode cX8_resultFor 64 = .ok (.iload_n 2, 1) := by decide +kernel
theorem dX8_resultFor_65 : decode cX8_resultFor 65 = .ok (.aload_n 0, 1) := by decide +kernel
theorem dX8_resultFor_66 : decode cX8_resultFor 66 = .ok (.iload_n 3, 1) := by decide +kernel
theorem dX8_resultFor_67 : decode cX8_resultFor 67 = .ok (.invokevirtual 100, 3) := by decide +kernel
theorem dX8_resultFor_70 : decode cX8_resultFor 70 = .ok (.invokevirtual 125, 3) := by decide +kernel
theorem u_539 : Cond.methodLink RX8 125 yX2_containsPhase ∈ UW := uw 539 (by decide +kernel) rfl
theorem u_509 : Cond.instanceMethod yX2_containsPhase ∈ UW := uw 509 (by decide +kernel) rfl
theorem u_510 : Cond.selects RX2 yX2_containsPhase yX2_containsPhase ∈ UW := uw 510 (by decide +kernel) rfl
theorem u_511 : Cond.code yX2_containsPhase cX2_containsPhase 3 (some .boolean) ∈ UW := uw 511 (by decide +kernel) rfl
theorem g_X8_125 : GoodIn UW (wsV RX8 125 RX2 yX2_containsPhase (wsU yX2_containsPhase cX2_containsPhase 3 (some .boolean))) := gV u_539 u_509 u_510 u_23 u_511
theorem hdv_X2_containsPhase : yX2_containsPhase.cls = RX2 ∧ yX2_containsPhase.cls ≠ "java/lang/invoke/MethodHandle" ∧ yX2_containsPhase.cls ≠ "java/lang/invoke/VarHandle" ∧ (parseMethodDescriptor yX2_containsPhase.desc).map (fun d => d.parameters.length) = some 2 := by decide +kernel
theorem dX8_resultFor_73 : decode cX8_resultFor 73 = .ok (.ifCond .ne 5, 3) := by decide +kernel
theorem dX8_resultFor_78 : decode cX8_resultFor 78 = .ok (.aload_n 0, 1) := by decide +kernel
theorem dX8_resultFor_79 : decode cX8_resultFor 79 = .ok (.getfield 21, 3) := by decide +kernel
theorem dX8_resultFor_82 : decode cX8_resultFor 82 = .ok (.iload_n 2, 1) := by decide +kernel
theorem dX8_resultFor_83 : decode cX8_resultFor 83 = .ok (.aload_n 0, 1) := by decide +kernel
theorem dX8_resultFor_84 : decode cX8_resultFor 84 = .ok (.invokevirtual 128, 3) := by decide +kernel
theorem u_752 : Cond.methodLink RX8 128 yX8_hourNow ∈ UW := uw 752 (by decide +kernel) rfl
theorem u_753 : Cond.instanceMethod yX8_hourNow ∈ UW := uw 753 (by decide +kernel) rfl
theorem u_754 : Cond.selects RX8 yX8_hourNow yX8_hourNow ∈ UW := uw 754 (by decide +kernel) rfl
theorem u_755 : Cond.code yX8_hourNow cX8_hourNow 1 (some .int) ∈ UW := uw 755 (by decide +kernel) rfl
theorem g_X8_128 : GoodIn UW (wsV RX8 128 RX8 yX8_hourNow (wsU yX8_hourNow cX8_hourNow 1 (some .int))) := gV u_752 u_753 u_754 u_22 u_755
theorem hdv_X8_hourNow : yX8_hourNow.cls = RX8 ∧ yX8_hourNow.cls ≠ "java/lang/invoke/MethodHandle" ∧ yX8_hourNow.cls ≠ "java/lang/invoke/VarHandle" ∧ (parseMethodDescriptor yX8_hourNow.desc).map (fun d => d.parameters.length) = some 0 := by decide +kernel
theorem dX8_resultFor_87 : decode cX8_resultFor 87 = .ok (.invokevirtual 131, 3) := by decide +kernel
theorem u_540 : Cond.methodLink RX8 131 yX2_containsHour ∈ UW := uw 540 (by decide +kernel) rfl
theorem g_X8_131 : GoodIn UW (wsV RX8 131 RX2 yX2_containsHour (wsU yX2_containsHour cX2_containsHour 5 (some .boolean))) := gV u_540 u_541 u_542 u_23 u_543
theorem dX8_resultFor_90 : decode cX8_resultFor 90 = .ok (.ifCond .eq 7, 3) := by decide +kernel
theorem dX8_resultFor_97 : decode cX8_resultFor 97 = .ok (.iconst 4, 1) := by decide +kernel
theorem dX8_resultFor_98 : decode cX8_resultFor 98 = .ok (.ireturn, 1) := by decide +kernel
theorem dX8_resultFor_93 : decode cX8_resultFor 93 = .ok (.iconst 0, 1) := by decide +kernel
theorem dX8_resultFor_94 : decode cX8_resultFor 94 = .ok (.goto 4, 3) := by decide +kernel
theorem dX8_resultFor_76 : decode cX8_resultFor 76 = .ok (.iconst 3, 1) := by decide +kernel
theorem dX8_resultFor_77 : decode cX8_resultFor 77 = .ok (.ireturn, 1) := by decide +kernel
theorem dX8_resultFor_58 : decode cX8_resultFor 58 = .ok (.iconst 0, 1) := by decide +kernel
theorem dX8_resultFor_59 : decode cX8_resultFor 59 = .ok (.ireturn, 1) := by decide +kernel
theorem dX8_resultFor_50 : decode cX8_resultFor 50 = .ok (.iconst 2, 1) := by decide +kernel
theorem dX8_resultFor_51 : decode cX8_resultFor 51 = .ok (.ireturn, 1) := by decide +kernel
theorem dX8_resultFor_29 : decode cX8_resultFor 29 = .ok (.iconst 1, 1) := by decide +kernel
theorem dX8_resultFor_30 : decode cX8_resultFor 30 = .ok (.ireturn, 1) := by decide +kernel
def f_X8_resultFor (v : StV) (ps : Int32) (dr : Int32) : Int32 := (let y_4 : Int32 := (f_X1_effectAt v.2.2.2.1 (f_X1_positionOf v.2.2.2.1 dr (f_X8_today v))); (if y_4 = (2 : Int32) then (1 : Int32) else (if (f_X5_ringContains v.2.2.2.2.1 ps (f_X2_keyFor v.2.2.1 dr)) = (0 : Int32) then (2 : Int32) else (if y_4 = (1 : Int32) then (0 : Int32) else (if (f_X2_containsPhase v.2.2.1 dr (f_X8_phaseFor v (f_X8_today v))) = (0 : Int32) then (3 : Int32) else (if (f_X2_containsHour v.2.2.1 dr (f_X8_hourNow v)) = (0 : Int32) then (4 : Int32) else (0 : Int32)))))))
set_option maxHeartbeats 4000000 in
set_option maxRecDepth 100000 in
theorem c_X8_resultFor (l : Launch) (G : GG) (va : Nat → Nat) (v : StV) (ps : Int32) (dr : Int32) : rMet l yX8_resultFor cX8_resultFor 5 (some .int) 3 G (fl [[((va 0), .inr (10, [.int v.1, .int v.2.1, .ref (va 1), .ref (va 6), .ref (va 10), .ref (va 13)]))], wDo G (va 1) (va 2) (va 3) (va 4) (va 5) v.2.2.1, wEx G (va 6) (va 7) (va 8) (va 9) v.2.2.2.1, wPe G (va 10) (va 11) (va 12) v.2.2.2.2.1, wAu G (va 13) (va 14) (va 15) (va 16) (va 17) (va 18) (va 19) v.2.2.2.2.2]) [.ref (va 0), .int ps, .int dr] (some (.int (f_X8_resultFor v ps dr))) (True) := by
  refine r_start (by decide +kernel) (Nat.le_of_ble_eq_true rfl) ?_
  intro p e s m below meth c hx hb hr hml hts hown hlk hP hK hST ls hl
  have hS : va_S (fun _ => False) s.heap s.heap [] := va_S.rf
  have hown : s.vm.findClass RX8 = some m.cls := hown
  have hl : lv_has ls 5 [(0, .ref (va 0)), (1, .int ps), (2, .int dr)] := hl
  have hF : f_X8_resultFor v ps dr = (let y_4 : Int32 := (f_X1_effectAt v.2.2.2.1 (f_X1_positionOf v.2.2.2.1 dr (f_X8_today v))); (if y_4 = (2 : Int32) then (1 : Int32) else (if (f_X5_ringContains v.2.2.2.2.1 ps (f_X2_keyFor v.2.2.1 dr)) = (0 : Int32) then (2 : Int32) else (if y_4 = (1 : Int32) then (0 : Int32) else (if (f_X2_containsPhase v.2.2.1 dr (f_X8_phaseFor v (f_X8_today v))) = (0 : Int32) then (3 : Int32) else (if (f_X2_containsHour v.2.2.1 dr (f_X8_hourNow v)) = (0 : Int32) then (4 : Int32) else (0 : Int32))))))) := rfl
  refine lv_aload_n hx hb dX8_resultFor_0 rfl (lv_at hl 0 rfl) ?_
  refine r_V (own := RX8) (v := (some (.int (f_X8_today v)))) (st1 := [.int (f_X8_today v)]) (As := []) (rest := []) (c_X8_today l G va v) ⟨hx, hb, hml, hown, hts⟩ g_X8_72 hdv_X8_today hK hST hS hP [0, 1, 2, 3, 4, 5, 6, 7, 8, 9, 10, 11, 12, 13, 14, 15, 16, 17, 18, 19] rfl (k0 := 0) rfl rfl rfl ⟨Nat.le_of_ble_eq_true rfl, Nat.le_of_ble_eq_true rfl⟩ ⟨Nat.le_of_ble_eq_true rfl, Nat.le_of_ble_eq_true rfl⟩ rfl hl.1 rfl (Nat.le_of_ble_eq_true rfl) dX8_resultFor_1 rfl (fun b_1 => ?_)
  refine lv_istore_n (lv' := [(3, .int (f_X8_today v)), (0, .ref (va 0)), (1, .int ps), (2, .int dr)]) hx hb dX8_resultFor_4 rfl hl (by decide) rfl (fun ls hl => ?_)
  refine lv_aload_n hx hb dX8_resultFor_5 rfl (lv_at hl 1 rfl) ?_
  refine va_get (D := G.1) (ci := 10) (v := .ref (va 6)) (C := RX8) (T := TX8) (N := 6) hx hb hts uws_X8 hown hK hP 0 rfl rfl 3 (by decide) (hts _ u_1029) (fun _ h9 => h9) rfl dX8_resultFor_6 ?_
  refine lv_aload_n hx hb dX8_resultFor_9 rfl (lv_at hl 1 rfl) ?_
  refine va_get (D := G.1) (ci := 10) (v := .ref (va 6)) (C := RX8) (T := TX8) (N := 6) hx hb hts uws_X8 hown hK hP 0 rfl rfl 3 (by decide) (hts _ u_1029) (fun _ h9 => h9) rfl dX8_resultFor_10 ?_
  refine lv_iload_n hx hb dX8_resultFor_13 rfl (lv_at hl 3 rfl) ?_
  refine lv_iload_n hx hb dX8_resultFor_14 rfl (lv_at hl 0 rfl) ?_
  refine r_V (own := RX8) (v := (some (.int (f_X1_positionOf v.2.2.2.1 dr (f_X8_today v))))) (st1 := [.int (f_X1_positionOf v.2.2.2.1 dr (f_X8_today v)), .ref (va 6)]) (As := [.int dr, .int (f_X8_today v)]) (rest := [.ref (va 6)]) (c_X1_positionOf l G (va 6) (va 7) (va 8) (va 9) v.2.2.2.1 dr (f_X8_today v)) ⟨hx, hb, hml, hown, hts⟩ g_X8_79 hdv_X1_positionOf hK hST hS hP [6, 7, 8, 9] rfl (k0 := 0) rfl rfl rfl ⟨Nat.le_of_ble_eq_true rfl, Nat.le_of_ble_eq_true rfl⟩ ⟨Nat.le_of_ble_eq_true rfl, Nat.le_of_ble_eq_true rfl⟩ rfl hl.1 rfl (Nat.le_of_ble_eq_true rfl) dX8_resultFor_15 rfl (fun b_2 => ?_)
  refine r_V (own := RX8) (v := (some (.int (f_X1_effectAt v.2.2.2.1 (f_X1_positionOf v.2.2.2.1 dr (f_X8_today v)))))) (st1 := [.int (f_X1_effectAt v.2.2.2.1 (f_X1_positionOf v.2.2.2.1 dr (f_X8_today v)))]) (As := [.int (f_X1_positionOf v.2.2.2.1 dr (f_X8_today v))]) (rest := []) (c_X1_effectAt l G (va 6) (va 7) (va 8) (va 9) v.2.2.2.1 (f_X1_positionOf v.2.2.2.1 dr (f_X8_today v))) ⟨hx, hb, hml, hown, hts⟩ g_X8_115 hdv_X1_effectAt hK hST hS hP [6, 7, 8, 9] rfl (k0 := 0) rfl rfl rfl ⟨Nat.le_of_ble_eq_true rfl, Nat.le_of_ble_eq_true rfl⟩ ⟨Nat.le_of_ble_eq_true rfl, Nat.le_of_ble_eq_true rfl⟩ rfl hl.1 rfl (Nat.le_of_ble_eq_true rfl) dX8_resultFor_18 rfl (fun b_3 => ?_)
  refine lv_topi (fun y_4 ey_4 => ?_)
  have hF : f_X8_resultFor v ps dr = (if y_4 = (2 : Int32) then (1 : Int32) else (if (f_X5_ringContains v.2.2.2.2.1 ps (f_X2_keyFor v.2.2.1 dr)) = (0 : Int32) then (2 : Int32) else (if y_4 = (1 : Int32) then (0 : Int32) else (if (f_X2_containsPhase v.2.2.1 dr (f_X8_phaseFor v (f_X8_today v))) = (0 : Int32) then (3 : Int32) else (if (f_X2_containsHour v.2.2.1 dr (f_X8_hourNow v)) = (0 : Int32) then (4 : Int32) else (0 : Int32)))))) := by subst ey_4; exact hF
  refine lv_istore (lv' := [(4, .int y_4), (3, .int (f_X8_today v)), (0, .ref (va 0)), (1, .int ps), (2, .int dr)]) hx hb dX8_resultFor_21 hl (by decide) rfl (fun ls hl => ?_)
  refine lv_iload hx hb dX8_resultFor_23 (lv_at hl 0 rfl) ?_
  refine lv_iconst (v := (2 : Int32)) hx hb dX8_resultFor_25 (by decide) ?_
  refine lv_icmp_ne (tgt := 31) hx hb dX8_resultFor_26 (by decide) (fun c_5 => ?_) (fun c_5 => ?_)
  · have hF := hF.trans (if_neg c_5)
    refine lv_aload_n hx hb dX8_resultFor_31 rfl (lv_at hl 2 rfl) ?_
    refine va_get (D := G.1) (ci := 10) (v := .ref (va 10)) (C := RX8) (T := TX8) (N := 6) hx hb hts uws_X8 hown hK hP 0 rfl rfl 4 (by decide) (hts _ u_1031) (fun _ h9 => h9) rfl dX8_resultFor_32 ?_
    refine lv_iload_n hx hb dX8_resultFor_35 rfl (lv_at hl 3 rfl) ?_
    refine lv_aload_n hx hb dX8_resultFor_36 rfl (lv_at hl 2 rfl) ?_
    refine va_get (D := G.1) (ci := 10) (v := .ref (va 1)) (C := RX8) (T := TX8) (N := 6) hx hb hts uws_X8 hown hK hP 0 rfl rfl 2 (by decide) (hts _ u_1027) (fun _ h9 => h9) rfl dX8_resultFor_37 ?_
    refine lv_iload_n hx hb dX8_resultFor_40 rfl (lv_at hl 4 rfl) ?_
    refine r_V (own := RX8) (v := (some (.int (f_X2_keyFor v.2.2.1 dr)))) (st1 := [.int (f_X2_keyFor v.2.2.1 dr), .int ps, .ref (va 10)]) (As := [.int dr]) (rest := [.int ps, .ref (va 10)]) (c_X2_keyFor l G (va 1) (va 2) (va 3) (va 4) (va 5) v.2.2.1 dr) ⟨hx, hb, hml, hown, hts⟩ g_X8_118 hdv_X2_keyFor hK hST hS hP [1, 2, 3, 4, 5] rfl (k0 := 0) rfl rfl rfl ⟨Nat.le_of_ble_eq_true rfl, Nat.le_of_ble_eq_true rfl⟩ ⟨Nat.le_of_ble_eq_true rfl, Nat.le_of_ble_eq_true rfl⟩ rfl hl.1 rfl (Nat.le_of_ble_eq_true rfl) dX8_resultFor_41 rfl (fun b_6 => ?_)
    refine r_V (own := RX8) (v := (some (.int (f_X5_ringContains v.2.2.2.2.1 ps (f_X2_keyFor v.2.2.1 dr))))) (st1 := [.int (f_X5_ringContains v.2.2.2.2.1 ps (f_X2_keyFor v.2.2.1 dr))]) (As := [.int ps, .int (f_X2_keyFor v.2.2.1 dr)]) (rest := []) (c_X5_ringContains l G (va 10) (va 11) (va 12) v.2.2.2.2.1 ps (f_X2_keyFor v.2.2.1 dr)) ⟨hx, hb, hml, hown, hts⟩ g_X8_121 hdv_X5_ringContains hK hST hS hP [10, 11, 12] rfl (k0 := 0) rfl rfl rfl ⟨Nat.le_of_ble_eq_true rfl, Nat.le_of_ble_eq_true rfl⟩ ⟨Nat.le_of_ble_eq_true rfl, Nat.le_of_ble_eq_true rfl⟩ rfl hl.1 rfl (Nat.le_of_ble_eq_true rfl) dX8_resultFor_44 rfl (fun b_7 => ?_)
    refine lv_if_ne (tgt := 52) hx hb dX8_resultFor_47 (by decide) (fun c_8 => ?_) (fun c_8 => ?_)
    · have hF := hF.trans (if_neg c_8)
      refine lv_iload hx hb dX8_resultFor_52 (lv_at hl 0 rfl) ?_
      refine lv_iconst (v := (1 : Int32)) hx hb dX8_resultFor_54 (by decide) ?_
      refine lv_icmp_ne (tgt := 60) hx hb dX8_resultFor_55 (by decide) (fun c_9 => ?_) (fun c_9 => ?_)
      · have hF := hF.trans (if_neg c_9)
        refine lv_aload_n hx hb dX8_resultFor_60 rfl (lv_at hl 2 rfl) ?_
        refine va_get (D := G.1) (ci := 10) (v := .ref (va 1)) (C := RX8) (T := TX8) (N := 6) hx hb hts uws_X8 hown hK hP 0 rfl rfl 2 (by decide) (hts _ u_1027) (fun _ h9 => h9) rfl dX8_resultFor_61 ?_
        refine lv_iload_n hx hb dX8_resultFor_64 rfl (lv_at hl 4 rfl) ?_
        refine lv_aload_n hx hb dX8_resultFor_65 rfl (lv_at hl 2 rfl) ?_
        refine lv_iload_n hx hb dX8_resultFor_66 rfl (lv_at hl 1 rfl) ?_
        refine r_V (own := RX8) (v := (some (.int (f_X8_phaseFor v (f_X8_today v))))) (st1 := [.int (f_X8_phaseFor v (f_X8_today v)), .int dr, .ref (va 1)]) (As := [.int (f_X8_today v)]) (rest := [.int dr, .ref (va 1)]) (c_X8_phaseFor l G va v (f_X8_today v)) ⟨hx, hb, hml, hown, hts⟩ g_X8_100 hdv_X8_phaseFor hK hST hS hP [0, 1, 2, 3, 4, 5, 6, 7, 8, 9, 10, 11, 12, 13, 14, 15, 16, 17, 18, 19] rfl (k0 := 0) rfl rfl rfl ⟨Nat.le_of_ble_eq_true rfl, Nat.le_of_ble_eq_true rfl⟩ ⟨Nat.le_of_ble_eq_true rfl, Nat.le_of_ble_eq_true rfl⟩ rfl hl.1 rfl (Nat.le_of_ble_eq_true rfl) dX8_resultFor_67 rfl (fun b_10 => ?_)
        refine r_V (own := RX8) (v := (some (.int (f_X2_containsPhase v.2.2.1 dr (f_X8_phaseFor v (f_X8_today v)))))) (st1 := [.int (f_X2_containsPhase v.2.2.1 dr (f_X8_phaseFor v (f_X8_today v)))]) (As := [.int dr, .int (f_X8_phaseFor v (f_X8_today v))]) (rest := []) (c_X2_containsPhase l G (va 1) (va 2) (va 3) (va 4) (va 5) v.2.2.1 dr (f_X8_phaseFor v (f_X8_today v))) ⟨hx, hb, hml, hown, hts⟩ g_X8_125 hdv_X2_containsPhase hK hST hS hP [1, 2, 3, 4, 5] rfl (k0 := 0) rfl rfl rfl ⟨Nat.le_of_ble_eq_true rfl, Nat.le_of_ble_eq_true rfl⟩ ⟨Nat.le_of_ble_eq_true rfl, Nat.le_of_ble_eq_true rfl⟩ rfl hl.1 rfl (Nat.le_of_ble_eq_true rfl) dX8_resultFor_70 rfl (fun b_11 => ?_)
        refine lv_if_ne (tgt := 78) hx hb dX8_resultFor_73 (by decide) (fun c_12 => ?_) (fun c_12 => ?_)
        · have hF := hF.trans (if_neg c_12)
          refine lv_aload_n hx hb dX8_resultFor_78 rfl (lv_at hl 2 rfl) ?_
          refine va_get (D := G.1) (ci := 10) (v := .ref (va 1)) (C := RX8) (T := TX8) (N := 6) hx hb hts uws_X8 hown hK hP 0 rfl rfl 2 (by decide) (hts _ u_1027) (fun _ h9 => h9) rfl dX8_resultFor_79 ?_
          refine lv_iload_n hx hb dX8_resultFor_82 rfl (lv_at hl 4 rfl) ?_
          refine lv_aload_n hx hb dX8_resultFor_83 rfl (lv_at hl 2 rfl) ?_
          refine r_V (own := RX8) (v := (some (.int (f_X8_hourNow v)))) (st1 := [.int (f_X8_hourNow v), .int dr, .ref (va 1)]) (As := []) (rest := [.int dr, .ref (va 1)]) (c_X8_hourNow l G va v) ⟨hx, hb, hml, hown, hts⟩ g_X8_128 hdv_X8_hourNow hK hST hS hP [0, 1, 2, 3, 4, 5, 6, 7, 8, 9, 10, 11, 12, 13, 14, 15, 16, 17, 18, 19] rfl (k0 := 0) rfl rfl rfl ⟨Nat.le_of_ble_eq_true rfl, Nat.le_of_ble_eq_true rfl⟩ ⟨Nat.le_of_ble_eq_true rfl, Nat.le_of_ble_eq_true rfl⟩ rfl hl.1 rfl (Nat.le_of_ble_eq_true rfl) dX8_resultFor_84 rfl (fun b_13 => ?_)
          refine r_V (own := RX8) (v := (some (.int (f_X2_containsHour v.2.2.1 dr (f_X8_hourNow v))))) (st1 := [.int (f_X2_containsHour v.2.2.1 dr (f_X8_hourNow v))]) (As := [.int dr, .int (f_X8_hourNow v)]) (rest := []) (c_X2_containsHour l G (va 1) (va 2) (va 3) (va 4) (va 5) v.2.2.1 dr (f_X8_hourNow v)) ⟨hx, hb, hml, hown, hts⟩ g_X8_131 hdv_X2_containsHour hK hST hS hP [1, 2, 3, 4, 5] rfl (k0 := 0) rfl rfl rfl ⟨Nat.le_of_ble_eq_true rfl, Nat.le_of_ble_eq_true rfl⟩ ⟨Nat.le_of_ble_eq_true rfl, Nat.le_of_ble_eq_true rfl⟩ rfl hl.1 rfl (Nat.le_of_ble_eq_true rfl) dX8_resultFor_87 rfl (fun b_14 => ?_)
          refine lv_if_eq (tgt := 97) hx hb dX8_resultFor_90 (by decide) (fun c_15 => ?_) (fun c_15 => ?_)
          · have hF := hF.trans (if_pos c_15)
            refine lv_iconst (v := (4 : Int32)) hx hb dX8_resultFor_97 (by decide) ?_
            exact r_ret hx hb hr hlk rfl (by rw [hF]) trivial dX8_resultFor_98
          · have hF := hF.trans (if_neg c_15)
            refine lv_iconst (v := (0 : Int32)) hx hb dX8_resultFor_93 (by decide) ?_
            refine lv_goto (tgt := 98) hx hb dX8_resultFor_94 (by decide) ?_
            exact r_ret hx hb hr hlk rfl (by rw [hF]) trivial dX8_resultFor_98
        · have hF := hF.trans (if_pos c_12)
          refine lv_iconst (v := (3 : Int32)) hx hb dX8_resultFor_76 (by decide) ?_
          exact r_ret hx hb hr hlk rfl (by rw [hF]) trivial dX8_resultFor_77
      · have hF := hF.trans (if_pos c_9)
        refine lv_iconst (v := (0 : Int32)) hx hb dX8_resultFor_58 (by decide) ?_
        exact r_ret hx hb hr hlk rfl (by rw [hF]) trivial dX8_resultFor_59
    · have hF := hF.trans (if_pos c_8)
      refine lv_iconst (v := (2 : Int32)) hx hb dX8_resultFor_50 (by decide) ?_
      exact r_ret hx hb hr hlk rfl (by rw [hF]) trivial dX8_resultFor_51
  · have hF := hF.trans (if_pos c_5)
    refine lv_iconst (v := (1 : Int32)) hx hb dX8_resultFor_29 (by decide) ?_
    exact r_ret hx hb hr hlk rfl (by rw [hF]) trivial dX8_resultFor_30
theorem dX8_attempt_0 : decode cX8_attempt 0 = .ok (.aload_n 0, 1) := by decide +kernel
theorem dX8_attempt_1 : decode cX8_attempt 1 = .ok (.iload_n 1, 1) := by decide +kernel
theorem dX8_attempt_2 : decode cX8_attempt 2 = .ok (.iload_n 2, 1) := by decide +kernel
theorem dX8_attempt_3 : decode cX8_attempt 3 = .ok (.invokevirtual 104, 3) := by decide +kernel
theorem u_739 : Cond.methodLink RX8 104 yX8_resultFor ∈ UW := uw 739 (by decide +kernel) rfl
theorem u_740 : Cond.instanceMethod yX8_resultFor ∈ UW := uw 740 (by decide +kernel) rfl
theorem u_741 : Cond.selects RX8 yX8_resultFor yX8_resultFor ∈ UW := uw 741 (by decide +kernel) rfl
theorem u_742 : Cond.code yX8_resultFor cX8_resultFor 5 (some .int) ∈ UW := uw 742 (by decide +kernel) rfl
theorem g_X8_104 : GoodIn UW (wsV RX8 104 RX8 yX8_resultFor (wsU yX8_resultFor cX8_resultFor 5 (some .int))) := gV u_739 u_740 u_741 u_22 u_742
theorem hdv_X8_resultFor : yX8_resultFor.cls = RX8 ∧ yX8_resultFor.cls ≠ "java/lang/invoke/MethodHandle" ∧ yX8_resultFor.cls ≠ "java/lang/invoke/VarHandle" ∧ (parseMethodDescriptor yX8_resultFor.desc).map (fun d => d.parameters.length) = some 2 := by decide +kernel
theorem dX8_attempt_6 : decode cX8_attempt 6 = .ok (.istore_n 3, 1) := by decide +kernel
theorem dX8_attempt_7 : decode cX8_attempt 7 = .ok (.aload_n 0, 1) := by decide +kernel
theorem dX8_attempt_8 : decode cX8_attempt 8 = .ok (.getfield 42, 3) := by decide +kernel
theorem dX8_attempt_11 : decode cX8_attempt 11 = .ok (.iload_n 1, 1) := by decide +kernel
theorem dX8_attempt_12 : decode cX8_attempt 12 = .ok (.iload_n 2, 1) := by decide +kernel
theorem dX8_attempt_13 : decode cX8_attempt 13 = .ok (.aload_n 0, 1) := by decide +kernel
theorem dX8_attempt_14 : decode cX8_attempt 14 = .ok (.invokevirtual 72, 3) := by decide +kernel
theorem dX8_attempt_17 : decode cX8_attempt 17 = .ok (.iload_n 3, 1) := by decide +kernel
theorem dX8_attempt_18 : decode cX8_attempt 18 = .ok (.invokevirtual 107, 3) := by decide +kernel
theorem u_756 : Cond.methodLink RX8 107 yX0_record ∈ UW := uw 756 (by decide +kernel) rfl
theorem u_757 : Cond.instanceMethod yX0_record ∈ UW := uw 757 (by decide +kernel) rfl
theorem u_758 : Cond.selects RX0 yX0_record yX0_record ∈ UW := uw 758 (by decide +kernel) rfl
theorem u_759 : Cond.code yX0_record cX0_record 6 none ∈ UW := uw 759 (by decide +kernel) rfl
theorem g_X8_107 : GoodIn UW (wsV RX8 107 RX0 yX0_record (wsU yX0_record cX0_record 6 none)) := gV u_756 u_757 u_758 u_26 u_759
theorem hdv_X0_record : yX0_record.cls = RX0 ∧ yX0_record.cls ≠ "java/lang/invoke/MethodHandle" ∧ yX0_record.cls ≠ "java/lang/invoke/VarHandle" ∧ (parseMethodDescriptor yX0_record.desc).map (fun d => d.parameters.length) = some 4 := by decide +kernel
theorem dX8_attempt_21 : decode cX8_attempt 21 = .ok (.iload_n 3, 1) := by decide +kernel
theorem dX8_attempt_22 : decode cX8_attempt 22 = .ok (.ifCond .ne 11, 3) := by decide +kernel
theorem dX8_attempt_33 : decode cX8_attempt 33 = .ok (.iload_n 3, 1) := by decide +kernel
theorem dX8_attempt_34 : decode cX8_attempt 34 = .ok (.ireturn, 1) := by decide +kernel
theorem dX8_attempt_25 : decode cX8_attempt 25 = .ok (.aload_n 0, 1) := by decide +kernel
theorem dX8_attempt_26 : decode cX8_attempt 26 = .ok (.getfield 35, 3) := by decide +kernel
theorem dX8_attempt_29 : decode cX8_attempt 29 = .ok (.iload_n 1, 1) := by decide +kernel
theorem dX8_attempt_30 : decode cX8_attempt 30 = .ok (.invokevirtual 111, 3) := by decide +kernel
theorem u_770 : Cond.methodLink RX8 111 yX5_countEntry ∈ UW := uw 770 (by decide +kernel) rfl
theorem u_771 : Cond.instanceMethod yX5_countEntry ∈ UW := uw 771 (by decide +kernel) rfl
theorem u_772 : Cond.selects RX5 yX5_countEntry yX5_countEntry ∈ UW := uw 772 (by decide +kernel) rfl
theorem u_773 : Cond.code yX5_countEntry cX5_countEntry 2 none ∈ UW := uw 773 (by decide +kernel) rfl
theorem g_X8_111 : GoodIn UW (wsV RX8 111 RX5 yX5_countEntry (wsU yX5_countEntry cX5_countEntry 2 none)) := gV u_770 u_771 u_772 u_25 u_773
theorem hdv_X5_countEntry : yX5_countEntry.cls = RX5 ∧ yX5_countEntry.cls ≠ "java/lang/invoke/MethodHandle" ∧ yX5_countEntry.cls ≠ "java/lang/invoke/VarHandle" ∧ (parseMethodDescriptor yX5_countEntry.desc).map (fun d => d.parameters.length) = some 1 := by decide +kernel
def f_X8_attempt (v : StV) (ps : Int32) (dr : Int32) : Int32 × StV := (let u_4 : AuV := (f_X0_record v.2.2.2.2.2 ps dr (f_X8_today v) (f_X8_resultFor v ps dr)); (if (f_X8_resultFor v ps dr) = (0 : Int32) then (let u_7 : PeV := (f_X5_countEntry v.2.2.2.2.1 ps); ((f_X8_resultFor v ps dr), (v.1, v.2.1, v.2.2.1, v.2.2.2.1, u_7, u_4))) else ((f_X8_resultFor v ps dr), (v.1, v.2.1, v.2.2.1, v.2.2.2.1, v.2.2.2.2.1, u_4))))
set_option maxHeartbeats 4000000 in
set_option maxRecDepth 100000 in
theorem c_X8_attempt (l : Launch) (G : GG) (va : Nat → Nat) (sz : Nat) (v : StV) (ps : Int32) (dr : Int32) : wMet l yX8_attempt cX8_attempt 4 (some .int) 4 0 0 G (fl [[((va 0), .inr (10, [.int v.1, .int v.2.1, .ref (va 1), .ref (va 6), .ref (va 10), .ref (va 13)]))], wDo G (va 1) (va 2) (va 3) (va 4) (va 5) v.2.2.1, wEx G (va 6) (va 7) (va 8) (va 9) v.2.2.2.1, wPe G (va 10) (va 11) (va 12) v.2.2.2.2.1, wAu G (va 13) (va 14) (va 15) (va 16) (va 17) (va 18) (va 19) v.2.2.2.2.2]) [.ref (va 0), .int ps, .int dr] sz (fun u : Int32 × StV => some (.int u.1)) (fun u : Int32 × StV => u = f_X8_attempt v ps dr) (fun u : Int32 × StV => fl [[((va 0), .inr (10, [.int u.2.1, .int u.2.2.1, .ref (va 1), .ref (va 6), .ref (va 10), .ref (va 13)]))], wDo G (va 1) (va 2) (va 3) (va 4) (va 5) u.2.2.2.1, wEx G (va 6) (va 7) (va 8) (va 9) u.2.2.2.2.1, wPe G (va 10) (va 11) (va 12) u.2.2.2.2.2.1, wAu G (va 13) (va 14) (va 15) (va 16) (va 17) (va 18) (va 19) u.2.2.2.2.2.2]) := by
  refine w_start (by decide +kernel) (Nat.le_of_ble_eq_true rfl) ?_
  intro p e s m below meth c A hx hb hr hml hts hown hlk hin hP hD hA hK hST ls hl
  have hS : va_S A s.heap s.heap [] := va_S.rf
  have hown : s.vm.findClass RX8 = some m.cls := hown
  have hl : lv_has ls 4 [(0, .ref (va 0)), (1, .int ps), (2, .int dr)] := hl
  have hF : f_X8_attempt v ps dr = (let u_4 : AuV := (f_X0_record v.2.2.2.2.2 ps dr (f_X8_today v) (f_X8_resultFor v ps dr)); (if (f_X8_resultFor v ps dr) = (0 : Int32) then (let u_7 : PeV := (f_X5_countEntry v.2.2.2.2.1 ps); ((f_X8_resultFor v ps dr), (v.1, v.2.1, v.2.2.1, v.2.2.2.1, u_7, u_4))) else ((f_X8_resultFor v ps dr), (v.1, v.2.1, v.2.2.1, v.2.2.2.1, v.2.2.2.2.1, u_4)))) := rfl
  refine lv_aload_n hx hb dX8_attempt_0 rfl (lv_at hl 0 rfl) ?_
  refine lv_iload_n hx hb dX8_attempt_1 rfl (lv_at hl 1 rfl) ?_
  refine lv_iload_n hx hb dX8_attempt_2 rfl (lv_at hl 2 rfl) ?_
  refine r_V (own := RX8) (v := (some (.int (f_X8_resultFor v ps dr)))) (st1 := [.int (f_X8_resultFor v ps dr)]) (As := [.int ps, .int dr]) (rest := []) (c_X8_resultFor l G va v ps dr) ⟨hx, hb, hml, hown, hts⟩ g_X8_104 hdv_X8_resultFor hK hST hS hP [0, 1, 2, 3, 4, 5, 6, 7, 8, 9, 10, 11, 12, 13, 14, 15, 16, 17, 18, 19] rfl (k0 := 0) rfl rfl rfl ⟨Nat.le_of_ble_eq_true rfl, Nat.le_of_ble_eq_true rfl⟩ ⟨Nat.le_of_ble_eq_true rfl, Nat.le_of_ble_eq_true rfl⟩ rfl hl.1 rfl (Nat.le_of_ble_eq_true rfl) dX8_attempt_3 rfl (fun b_1 => ?_)
  refine lv_istore_n (lv' := [(3, .int (f_X8_resultFor v ps dr)), (0, .ref (va 0)), (1, .int ps), (2, .int dr)]) hx hb dX8_attempt_6 rfl hl (by decide) rfl (fun ls hl => ?_)
  refine lv_aload_n hx hb dX8_attempt_7 rfl (lv_at hl 1 rfl) ?_
  refine va_get (D := G.1) (ci := 10) (v := .ref (va 13)) (C := RX8) (T := TX8) (N := 6) hx hb hts uws_X8 hown hK hP 0 rfl rfl 5 (by decide) (hts _ u_1033) (fun _ h9 => h9) rfl dX8_attempt_8 ?_
  refine lv_iload_n hx hb dX8_attempt_11 rfl (lv_at hl 2 rfl) ?_
  refine lv_iload_n hx hb dX8_attempt_12 rfl (lv_at hl 3 rfl) ?_
  refine lv_aload_n hx hb dX8_attempt_13 rfl (lv_at hl 1 rfl) ?_
  refine r_V (own := RX8) (v := (some (.int (f_X8_today v)))) (st1 := [.int (f_X8_today v), .int dr, .int ps, .ref (va 13)]) (As := []) (rest := [.int dr, .int ps, .ref (va 13)]) (c_X8_today l G va v) ⟨hx, hb, hml, hown, hts⟩ g_X8_72 hdv_X8_today hK hST hS hP [0, 1, 2, 3, 4, 5, 6, 7, 8, 9, 10, 11, 12, 13, 14, 15, 16, 17, 18, 19] rfl (k0 := 0) rfl rfl rfl ⟨Nat.le_of_ble_eq_true rfl, Nat.le_of_ble_eq_true rfl⟩ ⟨Nat.le_of_ble_eq_true rfl, Nat.le_of_ble_eq_true rfl⟩ rfl hl.1 rfl (Nat.le_of_ble_eq_true rfl) dX8_attempt_14 rfl (fun b_2 => ?_)
  refine lv_iload_n hx hb dX8_attempt_17 rfl (lv_at hl 0 rfl) ?_
  refine w_V (own := RX8) (cs := [wAu G (va 13) (va 14) (va 15) (va 16) (va 17) (va 18) (va 19) v.2.2.2.2.2]) (rs := [[((va 0), .inr (10, [.int v.1, .int v.2.1, .ref (va 1), .ref (va 6), .ref (va 10), .ref (va 13)]))], wDo G (va 1) (va 2) (va 3) (va 4) (va 5) v.2.2.1, wEx G (va 6) (va 7) (va 8) (va 9) v.2.2.2.1, wPe G (va 10) (va 11) (va 12) v.2.2.2.2.1]) (As := [.int ps, .int dr, .int (f_X8_today v), .int (f_X8_resultFor v ps dr)]) (rest := []) (c_X0_record l G (va 13) (va 14) (va 15) (va 16) (va 17) (va 18) (va 19) s.heap.size v.2.2.2.2.2 ps dr (f_X8_today v) (f_X8_resultFor v ps dr)) ⟨hx, hb, hml, hown, hts⟩ g_X8_107 hdv_X0_record hK hST hS hP hD hA [4] [0, 1, 2, 3] rfl rfl rfl (k0 := 0) rfl rfl rfl ⟨Nat.le_of_ble_eq_true rfl, Nat.le_of_ble_eq_true rfl⟩ ⟨Nat.le_of_ble_eq_true rfl, Nat.le_of_ble_eq_true rfl⟩ rfl hl.1 rfl (Nat.le_of_ble_eq_true rfl) dX8_attempt_18 (fun u_4 H locs huu hP hD hS => ?_)
  have eu_4 := huu
  have hP : va_P G.1 vwCl (fl [wAu G (va 13) (va 14) (va 15) (va 16) (va 17) (va 18) (va 19) u_4, [((va 0), .inr (10, [.int v.1, .int v.2.1, .ref (va 1), .ref (va 6), .ref (va 10), .ref (va 13)]))], wDo G (va 1) (va 2) (va 3) (va 4) (va 5) v.2.2.1, wEx G (va 6) (va 7) (va 8) (va 9) v.2.2.2.1, wPe G (va 10) (va 11) (va 12) v.2.2.2.2.1]) H := hP
  have hD : va_D A (fl [wAu G (va 13) (va 14) (va 15) (va 16) (va 17) (va 18) (va 19) u_4, [((va 0), .inr (10, [.int v.1, .int v.2.1, .ref (va 1), .ref (va 6), .ref (va 10), .ref (va 13)]))], wDo G (va 1) (va 2) (va 3) (va 4) (va 5) v.2.2.1, wEx G (va 6) (va 7) (va 8) (va 9) v.2.2.2.1, wPe G (va 10) (va 11) (va 12) v.2.2.2.2.1]) := hD
  refine W.eq (g2 := F0 m 21 ls []) rfl ?_
  have hF : f_X8_attempt v ps dr = (if (f_X8_resultFor v ps dr) = (0 : Int32) then (let u_7 : PeV := (f_X5_countEntry v.2.2.2.2.1 ps); ((f_X8_resultFor v ps dr), (v.1, v.2.1, v.2.2.1, v.2.2.2.1, u_7, u_4))) else ((f_X8_resultFor v ps dr), (v.1, v.2.1, v.2.2.1, v.2.2.2.1, v.2.2.2.2.1, u_4))) := by subst eu_4; exact hF
  refine lv_iload_n hx hb dX8_attempt_21 rfl (lv_at hl 0 rfl) ?_
  refine lv_if_ne (tgt := 33) hx hb dX8_attempt_22 (by decide) (fun c_5 => ?_) (fun c_5 => ?_)
  · have hF := hF.trans (if_neg c_5)
    refine lv_iload_n hx hb dX8_attempt_33 rfl (lv_at hl 0 rfl) ?_
    have hP := fl_sub (cs := [[((va 0), .inr (10, [.int v.1, .int v.2.1, .ref (va 1), .ref (va 6), .ref (va 10), .ref (va 13)]))], wDo G (va 1) (va 2) (va 3) (va 4) (va 5) v.2.2.1, wEx G (va 6) (va 7) (va 8) (va 9) v.2.2.2.1, wPe G (va 10) (va 11) (va 12) v.2.2.2.2.1, wAu G (va 13) (va 14) (va 15) (va 16) (va 17) (va 18) (va 19) u_4]) [1, 2, 3, 4, 0] rfl hP
    have hD := fl_subD (cs := [[((va 0), .inr (10, [.int v.1, .int v.2.1, .ref (va 1), .ref (va 6), .ref (va 10), .ref (va 13)]))], wDo G (va 1) (va 2) (va 3) (va 4) (va 5) v.2.2.1, wEx G (va 6) (va 7) (va 8) (va 9) v.2.2.2.1, wPe G (va 10) (va 11) (va 12) v.2.2.2.2.1, wAu G (va 13) (va 14) (va 15) (va 16) (va 17) (va 18) (va 19) u_4]) [1, 2, 3, 4, 0] rfl rfl hD
    exact w_ret (u := ((f_X8_resultFor v ps dr), (v.1, v.2.1, v.2.2.1, v.2.2.2.1, v.2.2.2.2.1, u_4))) hx hb hr hlk rfl hS rfl hF.symm hP hD (Nat.le_of_ble_eq_true rfl) (Nat.le_of_ble_eq_true rfl) dX8_attempt_34
  · have hF := hF.trans (if_pos c_5)
    refine lv_aload_n hx hb dX8_attempt_25 rfl (lv_at hl 1 rfl) ?_
    refine va_get (D := G.1) (ci := 10) (v := .ref (va 10)) (C := RX8) (T := TX8) (N := 6) hx hb hts uws_X8 hown hK hP 7 rfl rfl 4 (by decide) (hts _ u_1031) (fun _ h9 => h9) rfl dX8_attempt_26 ?_
    refine lv_iload_n hx hb dX8_attempt_29 rfl (lv_at hl 2 rfl) ?_
    refine w_V (own := RX8) (cs := [wPe G (va 10) (va 11) (va 12) v.2.2.2.2.1]) (rs := [wAu G (va 13) (va 14) (va 15) (va 16) (va 17) (va 18) (va 19) u_4, [((va 0), .inr (10, [.int v.1, .int v.2.1, .ref (va 1), .ref (va 6), .ref (va 10), .ref (va 13)]))], wDo G (va 1) (va 2) (va 3) (va 4) (va 5) v.2.2.1, wEx G (va 6) (va 7) (va 8) (va 9) v.2.2.2.1]) (As := [.int ps]) (rest := []) (c_X5_countEntry l G (va 10) (va 11) (va 12) H.size v.2.2.2.2.1 ps) ⟨hx, hb, hml, hown, hts⟩ g_X8_111 hdv_X5_countEntry hK hST hS hP hD hA [4] [0, 1, 2, 3] rfl rfl rfl (k0 := 0) rfl rfl rfl ⟨Nat.le_of_ble_eq_true rfl, Nat.le_of_ble_eq_true rfl⟩ ⟨Nat.le_of_ble_eq_true rfl, Nat.le_of_ble_eq_true rfl⟩ rfl hl.1 rfl (Nat.le_of_ble_eq_true rfl) dX8_attempt_30 (fun u_7 H locs huu hP hD hS => ?_)
    have eu_7 := huu
    have hP : va_P G.1 vwCl (fl [wPe G (va 10) (va 11) (va 12) u_7, wAu G (va 13) (va 14) (va 15) (va 16) (va 17) (va 18) (va 19) u_4, [((va 0), .inr (10, [.int v.1, .int v.2.1, .ref (va 1), .ref (va 6), .ref (va 10), .ref (va 13)]))], wDo G (va 1) (va 2) (va 3) (va 4) (va 5) v.2.2.1, wEx G (va 6) (va 7) (va 8) (va 9) v.2.2.2.1]) H := hP
    have hD : va_D A (fl [wPe G (va 10) (va 11) (va 12) u_7, wAu G (va 13) (va 14) (va 15) (va 16) (va 17) (va 18) (va 19) u_4, [((va 0), .inr (10, [.int v.1, .int v.2.1, .ref (va 1), .ref (va 6), .ref (va 10), .ref (va 13)]))], wDo G (va 1) (va 2) (va 3) (va 4) (va 5) v.2.2.1, wEx G (va 6) (va 7) (va 8) (va 9) v.2.2.2.1]) := hD
    refine W.eq (g2 := F0 m 33 ls []) rfl ?_
    have hF : f_X8_attempt v ps dr = ((f_X8_resultFor v ps dr), (v.1, v.2.1, v.2.2.1, v.2.2.2.1, u_7, u_4)) := by subst eu_7; exact hF
    refine lv_iload_n hx hb dX8_attempt_33 rfl (lv_at hl 0 rfl) ?_
    have hP := fl_sub (cs := [[((va 0), .inr (10, [.int v.1, .int v.2.1, .ref (va 1), .ref (va 6), .ref (va 10), .ref (va 13)]))], wDo G (va 1) (va 2) (va 3) (va 4) (va 5) v.2.2.1, wEx G (va 6) (va 7) (va 8) (va 9) v.2.2.2.1, wPe G (va 10) (va 11) (va 12) u_7, wAu G (va 13) (va 14) (va 15) (va 16) (va 17) (va 18) (va 19) u_4]) [2, 3, 4, 0, 1] rfl hP
    have hD := fl_subD (cs := [[((va 0), .inr (10, [.int v.1, .int v.2.1, .ref (va 1), .ref (va 6), .ref (va 10), .ref (va 13)]))], wDo G (va 1) (va 2) (va 3) (va 4) (va 5) v.2.2.1, wEx G (va 6) (va 7) (va 8) (va 9) v.2.2.2.1, wPe G (va 10) (va 11) (va 12) u_7, wAu G (va 13) (va 14) (va 15) (va 16) (va 17) (va 18) (va 19) u_4]) [2, 3, 4, 0, 1] rfl rfl hD
    exact w_ret (u := ((f_X8_resultFor v ps dr), (v.1, v.2.1, v.2.2.1, v.2.2.2.1, u_7, u_4))) hx hb hr hlk rfl hS rfl hF.symm hP hD (Nat.le_of_ble_eq_true rfl) (Nat.le_of_ble_eq_true rfl) dX8_attempt_34
theorem dX8_isUnlockedAt_0 : decode cX8_isUnlockedAt 0 = .ok (.iload_n 2, 1) := by decide +kernel
theorem dX8_isUnlockedAt_1 : decode cX8_isUnlockedAt 1 = .ok (.bipush 24, 2) := by decide +kernel
theorem dX8_isUnlockedAt_3 : decode cX8_isUnlockedAt 3 = .ok (.invokestatic 88, 3) := by decide +kernel
theorem dX8_isUnlockedAt_6 : decode cX8_isUnlockedAt 6 = .ok (.istore_n 3, 1) := by decide +kernel
theorem dX8_isUnlockedAt_7 : decode cX8_isUnlockedAt 7 = .ok (.aload_n 0, 1) := by decide +kernel
theorem dX8_isUnlockedAt_8 : decode cX8_isUnlockedAt 8 = .ok (.getfield 28, 3) := by decide +kernel
theorem dX8_isUnlockedAt_11 : decode cX8_isUnlockedAt 11 = .ok (.aload_n 0, 1) := by decide +kernel
theorem dX8_isUnlockedAt_12 : decode cX8_isUnlockedAt 12 = .ok (.getfield 28, 3) := by decide +kernel
theorem dX8_isUnlockedAt_15 : decode cX8_isUnlockedAt 15 = .ok (.iload_n 1, 1) := by decide +kernel
theorem dX8_isUnlockedAt_16 : decode cX8_isUnlockedAt 16 = .ok (.iload_n 3, 1) := by decide +kernel
theorem dX8_isUnlockedAt_17 : decode cX8_isUnlockedAt 17 = .ok (.invokevirtual 79, 3) := by decide +kernel
theorem dX8_isUnlockedAt_20 : decode cX8_isUnlockedAt 20 = .ok (.invokevirtual 115, 3) := by decide +kernel
theorem dX8_isUnlockedAt_23 : decode cX8_isUnlockedAt 23 = .ok (.istore 4, 2) := by decide +kernel
theorem dX8_isUnlockedAt_25 : decode cX8_isUnlockedAt 25 = .ok (.iload 4, 2) := by decide +kernel
theorem dX8_isUnlockedAt_27 : decode cX8_isUnlockedAt 27 = .ok (.ifCond .eq 15, 3) := by decide +kernel
theorem dX8_isUnlockedAt_42 : decode cX8_isUnlockedAt 42 = .ok (.aload_n 0, 1) := by decide +kernel
theorem dX8_isUnlockedAt_43 : decode cX8_isUnlockedAt 43 = .ok (.getfield 21, 3) := by decide +kernel
theorem dX8_isUnlockedAt_46 : decode cX8_isUnlockedAt 46 = .ok (.iload_n 1, 1) := by decide +kernel
theorem dX8_isUnlockedAt_47 : decode cX8_isUnlockedAt 47 = .ok (.aload_n 0, 1) := by decide +kernel
theorem dX8_isUnlockedAt_48 : decode cX8_isUnlockedAt 48 = .ok (.iload_n 3, 1) := by decide +kernel
theorem dX8_isUnlockedAt_49 : decode cX8_isUnlockedAt 49 = .ok (.invokevirtual 100, 3) := by decide +kernel
theorem dX8_isUnlockedAt_52 : decode cX8_isUnlockedAt 52 = .ok (.invokevirtual 125, 3) := by decide +kernel
theorem dX8_isUnlockedAt_55 : decode cX8_isUnlockedAt 55 = .ok (.ifCond .eq 24, 3) := by decide +kernel
theorem dX8_isUnlockedAt_79 : decode cX8_isUnlockedAt 79 = .ok (.iconst 0, 1) := by decide +kernel
theorem dX8_isUnlockedAt_80 : decode cX8_isUnlockedAt 80 = .ok (.ireturn, 1) := by decide +kernel
theorem dX8_isUnlockedAt_58 : decode cX8_isUnlockedAt 58 = .ok (.aload_n 0, 1) := by decide +kernel
theorem dX8_isUnlockedAt_59 : decode cX8_isUnlockedAt 59 = .ok (.getfield 21, 3) := by decide +kernel
theorem dX8_isUnlockedAt_62 : decode cX8_isUnlockedAt 62 = .ok (.iload_n 1, 1) := by decide +kernel
theorem dX8_isUnlockedAt_63 : decode cX8_isUnlockedAt 63 = .ok (.iload_n 2, 1) := by decide +kernel
theorem dX8_isUnlockedAt_64 : decode cX8_isUnlockedAt 64 = .ok (.bipush 24, 2) := by decide +kernel
theorem dX8_isUnlockedAt_66 : decode cX8_isUnlockedAt 66 = .ok (.invokestatic 93, 3) := by decide +kernel
theorem dX8_isUnlockedAt_69 : decode cX8_isUnlockedAt 69 = .ok (.invokevirtual 131, 3) := by decide +kernel
theorem dX8_isUnlockedAt_72 : decode cX8_isUnlockedAt 72 = .ok (.ifCond .eq 7, 3) := by decide +kernel
theorem dX8_isUnlockedAt_75 : decode cX8_isUnlockedAt 75 = .ok (.iconst 1, 1) := by decide +kernel
theorem dX8_isUnlockedAt_76 : decode cX8_isUnlockedAt 76 = .ok (.goto 4, 3) := by decide +kernel
theorem dX8_isUnlockedAt_30 : decode cX8_isUnlockedAt 30 = .ok (.iload 4, 2) := by decide +kernel
theorem dX8_isUnlockedAt_32 : decode cX8_isUnlockedAt 32 = .ok (.iconst 1, 1) := by decide +kernel
theorem dX8_isUnlockedAt_33 : decode cX8_isUnlockedAt 33 = .ok (.if_icmp .ne 7, 3) := by decide +kernel
theorem dX8_isUnlockedAt_40 : decode cX8_isUnlockedAt 40 = .ok (.iconst 0, 1) := by decide +kernel
theorem dX8_isUnlockedAt_41 : decode cX8_isUnlockedAt 41 = .ok (.ireturn, 1) := by decide +kernel
theorem dX8_isUnlockedAt_36 : decode cX8_isUnlockedAt 36 = .ok (.iconst 1, 1) := by decide +kernel
theorem dX8_isUnlockedAt_37 : decode cX8_isUnlockedAt 37 = .ok (.goto 4, 3) := by decide +kernel
def f_X8_isUnlockedAt (v : StV) (dr : Int32) (tm : Int32) : Int32 := (let y_2 : Int32 := (f_J9_floorDiv_7cf53 tm (24 : Int32)); (let y_5 : Int32 := (f_X1_effectAt v.2.2.2.1 (f_X1_positionOf v.2.2.2.1 dr y_2)); (if y_5 = (0 : Int32) then (if (f_X2_containsPhase v.2.2.1 dr (f_X8_phaseFor v y_2)) = (0 : Int32) then (0 : Int32) else (if (f_X2_containsHour v.2.2.1 dr (f_J9_floorMod_7cf53 tm (24 : Int32))) = (0 : Int32) then (0 : Int32) else (1 : Int32))) else (if y_5 = (1 : Int32) then (1 : Int32) else (0 : Int32)))))
set_option maxHeartbeats 4000000 in
set_option maxRecDepth 100000 in
theorem c_X8_isUnlockedAt (l : Launch) (G : GG) (va : Nat → Nat) (v : StV) (dr : Int32) (tm : Int32) : rMet l yX8_isUnlockedAt cX8_isUnlockedAt 5 (some .boolean) 3 G (fl [[((va 0), .inr (10, [.int v.1, .int v.2.1, .ref (va 1), .ref (va 6), .ref (va 10), .ref (va 13)]))], wDo G (va 1) (va 2) (va 3) (va 4) (va 5) v.2.2.1, wEx G (va 6) (va 7) (va 8) (va 9) v.2.2.2.1, wPe G (va 10) (va 11) (va 12) v.2.2.2.2.1, wAu G (va 13) (va 14) (va 15) (va 16) (va 17) (va 18) (va 19) v.2.2.2.2.2]) [.ref (va 0), .int dr, .int tm] (some (.int (f_X8_isUnlockedAt v dr tm))) (narrow .boolean (.int (f_X8_isUnlockedAt v dr tm)) = .int (f_X8_isUnlockedAt v dr tm)) := by
  refine r_start (by decide +kernel) (Nat.le_of_ble_eq_true rfl) ?_
  intro p e s m below meth c hx hb hr hml hts hown hlk hP hK hST ls hl
  have hS : va_S (fun _ => False) s.heap s.heap [] := va_S.rf
  have hown : s.vm.findClass RX8 = some m.cls := hown
  have hl : lv_has ls 5 [(0, .ref (va 0)), (1, .int dr), (2, .int tm)] := hl
  have hF : f_X8_isUnlockedAt v dr tm = (let y_2 : Int32 := (f_J9_floorDiv_7cf53 tm (24 : Int32)); (let y_5 : Int32 := (f_X1_effectAt v.2.2.2.1 (f_X1_positionOf v.2.2.2.1 dr y_2)); (if y_5 = (0 : Int32) then (if (f_X2_containsPhase v.2.2.1 dr (f_X8_phaseFor v y_2)) = (0 : Int32) then (0 : Int32) else (if (f_X2_containsHour v.2.2.1 dr (f_J9_floorMod_7cf53 tm (24 : Int32))) = (0 : Int32) then (0 : Int32) else (1 : Int32))) else (if y_5 = (1 : Int32) then (1 : Int32) else (0 : Int32))))) := rfl
  refine lv_iload_n hx hb dX8_isUnlockedAt_0 rfl (lv_at hl 2 rfl) ?_
  refine lv_bipush (v := (24 : Int32)) hx hb dX8_isUnlockedAt_1 (by decide) ?_
  refine r_S (own := RX8) (v := (some (.int (f_J9_floorDiv_7cf53 tm (24 : Int32))))) (st1 := [.int (f_J9_floorDiv_7cf53 tm (24 : Int32))]) (As := [.int tm, .int (24 : Int32)]) (rest := []) (c_J9_floorDiv_7cf53 l G tm (24 : Int32) (by decide)) ⟨hx, hb, hml, hown, hts⟩ g_X8_88 hds_J9_floorDiv_7cf53 hK hST hS hP [] rfl ⟨Nat.le_of_ble_eq_true rfl, Nat.le_of_ble_eq_true rfl⟩ ⟨Nat.le_of_ble_eq_true rfl, Nat.le_of_ble_eq_true rfl⟩ rfl hl.1 rfl (Nat.le_of_ble_eq_true rfl) dX8_isUnlockedAt_3 rfl (fun b_1 => ?_)
  refine lv_topi (fun y_2 ey_2 => ?_)
  have hF : f_X8_isUnlockedAt v dr tm = (let y_5 : Int32 := (f_X1_effectAt v.2.2.2.1 (f_X1_positionOf v.2.2.2.1 dr y_2)); (if y_5 = (0 : Int32) then (if (f_X2_containsPhase v.2.2.1 dr (f_X8_phaseFor v y_2)) = (0 : Int32) then (0 : Int32) else (if (f_X2_containsHour v.2.2.1 dr (f_J9_floorMod_7cf53 tm (24 : Int32))) = (0 : Int32) then (0 : Int32) else (1 : Int32))) else (if y_5 = (1 : Int32) then (1 : Int32) else (0 : Int32)))) := by subst ey_2; exact hF
  refine lv_istore_n (lv' := [(3, .int y_2), (0, .ref (va 0)), (1, .int dr), (2, .int tm)]) hx hb dX8_isUnlockedAt_6 rfl hl (by decide) rfl (fun ls hl => ?_)
  refine lv_aload_n hx hb dX8_isUnlockedAt_7 rfl (lv_at hl 1 rfl) ?_
  refine va_get (D := G.1) (ci := 10) (v := .ref (va 6)) (C := RX8) (T := TX8) (N := 6) hx hb hts uws_X8 hown hK hP 0 rfl rfl 3 (by decide) (hts _ u_1029) (fun _ h9 => h9) rfl dX8_isUnlockedAt_8 ?_
  refine lv_aload_n hx hb dX8_isUnlockedAt_11 rfl (lv_at hl 1 rfl) ?_
  refine va_get (D := G.1) (ci := 10) (v := .ref (va 6)) (C := RX8) (T := TX8) (N := 6) hx hb hts uws_X8 hown hK hP 0 rfl rfl 3 (by decide) (hts _ u_1029) (fun _ h9 => h9) rfl dX8_isUnlockedAt_12 ?_
  refine lv_iload_n hx hb dX8_isUnlockedAt_15 rfl (lv_at hl 2 rfl) ?_
  refine lv_iload_n hx hb dX8_isUnlockedAt_16 rfl (lv_at hl 0 rfl) ?_
  refine r_V (own := RX8) (v := (some (.int (f_X1_positionOf v.2.2.2.1 dr y_2)))) (st1 := [.int (f_X1_positionOf v.2.2.2.1 dr y_2), .ref (va 6)]) (As := [.int dr, .int y_2]) (rest := [.ref (va 6)]) (c_X1_positionOf l G (va 6) (va 7) (va 8) (va 9) v.2.2.2.1 dr y_2) ⟨hx, hb, hml, hown, hts⟩ g_X8_79 hdv_X1_positionOf hK hST hS hP [6, 7, 8, 9] rfl (k0 := 0) rfl rfl rfl ⟨Nat.le_of_ble_eq_true rfl, Nat.le_of_ble_eq_true rfl⟩ ⟨Nat.le_of_ble_eq_true rfl, Nat.le_of_ble_eq_true rfl⟩ rfl hl.1 rfl (Nat.le_of_ble_eq_true rfl) dX8_isUnlockedAt_17 rfl (fun b_3 => ?_)
  refine r_V (own := RX8) (v := (some (.int (f_X1_effectAt v.2.2.2.1 (f_X1_positionOf v.2.2.2.1 dr y_2))))) (st1 := [.int (f_X1_effectAt v.2.2.2.1 (f_X1_positionOf v.2.2.2.1 dr y_2))]) (As := [.int (f_X1_positionOf v.2.2.2.1 dr y_2)]) (rest := []) (c_X1_effectAt l G (va 6) (va 7) (va 8) (va 9) v.2.2.2.1 (f_X1_positionOf v.2.2.2.1 dr y_2)) ⟨hx, hb, hml, hown, hts⟩ g_X8_115 hdv_X1_effectAt hK hST hS hP [6, 7, 8, 9] rfl (k0 := 0) rfl rfl rfl ⟨Nat.le_of_ble_eq_true rfl, Nat.le_of_ble_eq_true rfl⟩ ⟨Nat.le_of_ble_eq_true rfl, Nat.le_of_ble_eq_true rfl⟩ rfl hl.1 rfl (Nat.le_of_ble_eq_true rfl) dX8_isUnlockedAt_20 rfl (fun b_4 => ?_)
  refine lv_topi (fun y_5 ey_5 => ?_)
  have hF : f_X8_isUnlockedAt v dr tm = (if y_5 = (0 : Int32) then (if (f_X2_containsPhase v.2.2.1 dr (f_X8_phaseFor v y_2)) = (0 : Int32) then (0 : Int32) else (if (f_X2_containsHour v.2.2.1 dr (f_J9_floorMod_7cf53 tm (24 : Int32))) = (0 : Int32) then (0 : Int32) else (1 : Int32))) else (if y_5 = (1 : Int32) then (1 : Int32) else (0 : Int32))) := by subst ey_5; exact hF
  refine lv_istore (lv' := [(4, .int y_5), (3, .int y_2), (0, .ref (va 0)), (1, .int dr), (2, .int tm)]) hx hb dX8_isUnlockedAt_23 hl (by decide) rfl (fun ls hl => ?_)
  refine lv_iload hx hb dX8_isUnlockedAt_25 (lv_at hl 0 rfl) ?_
  refine lv_if_eq (tgt := 42) hx hb dX8_isUnlockedAt_27 (by decide) (fun c_6 => ?_) (fun c_6 => ?_)
  · have hF := hF.trans (if_pos c_6)
    refine lv_aload_n hx hb dX8_isUnlockedAt_42 rfl (lv_at hl 2 rfl) ?_
    refine va_get (D := G.1) (ci := 10) (v := .ref (va 1)) (C := RX8) (T := TX8) (N := 6) hx hb hts uws_X8 hown hK hP 0 rfl rfl 2 (by decide) (hts _ u_1027) (fun _ h9 => h9) rfl dX8_isUnlockedAt_43 ?_
    refine lv_iload_n hx hb dX8_isUnlockedAt_46 rfl (lv_at hl 3 rfl) ?_
    refine lv_aload_n hx hb dX8_isUnlockedAt_47 rfl (lv_at hl 2 rfl) ?_
    refine lv_iload_n hx hb dX8_isUnlockedAt_48 rfl (lv_at hl 1 rfl) ?_
    refine r_V (own := RX8) (v := (some (.int (f_X8_phaseFor v y_2)))) (st1 := [.int (f_X8_phaseFor v y_2), .int dr, .ref (va 1)]) (As := [.int y_2]) (rest := [.int dr, .ref (va 1)]) (c_X8_phaseFor l G va v y_2) ⟨hx, hb, hml, hown, hts⟩ g_X8_100 hdv_X8_phaseFor hK hST hS hP [0, 1, 2, 3, 4, 5, 6, 7, 8, 9, 10, 11, 12, 13, 14, 15, 16, 17, 18, 19] rfl (k0 := 0) rfl rfl rfl ⟨Nat.le_of_ble_eq_true rfl, Nat.le_of_ble_eq_true rfl⟩ ⟨Nat.le_of_ble_eq_true rfl, Nat.le_of_ble_eq_true rfl⟩ rfl hl.1 rfl (Nat.le_of_ble_eq_true rfl) dX8_isUnlockedAt_49 rfl (fun b_7 => ?_)
    refine r_V (own := RX8) (v := (some (.int (f_X2_containsPhase v.2.2.1 dr (f_X8_phaseFor v y_2))))) (st1 := [.int (f_X2_containsPhase v.2.2.1 dr (f_X8_phaseFor v y_2))]) (As := [.int dr, .int (f_X8_phaseFor v y_2)]) (rest := []) (c_X2_containsPhase l G (va 1) (va 2) (va 3) (va 4) (va 5) v.2.2.1 dr (f_X8_phaseFor v y_2)) ⟨hx, hb, hml, hown, hts⟩ g_X8_125 hdv_X2_containsPhase hK hST hS hP [1, 2, 3, 4, 5] rfl (k0 := 0) rfl rfl rfl ⟨Nat.le_of_ble_eq_true rfl, Nat.le_of_ble_eq_true rfl⟩ ⟨Nat.le_of_ble_eq_true rfl, Nat.le_of_ble_eq_true rfl⟩ rfl hl.1 rfl (Nat.le_of_ble_eq_true rfl) dX8_isUnlockedAt_52 rfl (fun b_8 => ?_)
    refine lv_if_eq (tgt := 79) hx hb dX8_isUnlockedAt_55 (by decide) (fun c_9 => ?_) (fun c_9 => ?_)
    · have hF := hF.trans (if_pos c_9)
      refine lv_iconst (v := (0 : Int32)) hx hb dX8_isUnlockedAt_79 (by decide) ?_
      exact r_ret hx hb hr hlk rfl (by rw [hF]) (by rw [hF]; exact (rfl : narrow .boolean (.int (0 : Int32)) = .int (0 : Int32))) dX8_isUnlockedAt_80
    · have hF := hF.trans (if_neg c_9)
      refine lv_aload_n hx hb dX8_isUnlockedAt_58 rfl (lv_at hl 2 rfl) ?_
      refine va_get (D := G.1) (ci := 10) (v := .ref (va 1)) (C := RX8) (T := TX8) (N := 6) hx hb hts uws_X8 hown hK hP 0 rfl rfl 2 (by decide) (hts _ u_1027) (fun _ h9 => h9) rfl dX8_isUnlockedAt_59 ?_
      refine lv_iload_n hx hb dX8_isUnlockedAt_62 rfl (lv_at hl 3 rfl) ?_
      refine lv_iload_n hx hb dX8_isUnlockedAt_63 rfl (lv_at hl 4 rfl) ?_
      refine lv_bipush (v := (24 : Int32)) hx hb dX8_isUnlockedAt_64 (by decide) ?_
      refine r_S (own := RX8) (v := (some (.int (f_J9_floorMod_7cf53 tm (24 : Int32))))) (st1 := [.int (f_J9_floorMod_7cf53 tm (24 : Int32)), .int dr, .ref (va 1)]) (As := [.int tm, .int (24 : Int32)]) (rest := [.int dr, .ref (va 1)]) (c_J9_floorMod_7cf53 l G tm (24 : Int32) (by decide)) ⟨hx, hb, hml, hown, hts⟩ g_X8_93 hds_J9_floorMod_7cf53 hK hST hS hP [] rfl ⟨Nat.le_of_ble_eq_true rfl, Nat.le_of_ble_eq_true rfl⟩ ⟨Nat.le_of_ble_eq_true rfl, Nat.le_of_ble_eq_true rfl⟩ rfl hl.1 rfl (Nat.le_of_ble_eq_true rfl) dX8_isUnlockedAt_66 rfl (fun b_10 => ?_)
      refine r_V (own := RX8) (v := (some (.int (f_X2_containsHour v.2.2.1 dr (f_J9_floorMod_7cf53 tm (24 : Int32)))))) (st1 := [.int (f_X2_containsHour v.2.2.1 dr (f_J9_floorMod_7cf53 tm (24 : Int32)))]) (As := [.int dr, .int (f_J9_floorMod_7cf53 tm (24 : Int32))]) (rest := []) (c_X2_containsHour l G (va 1) (va 2) (va 3) (va 4) (va 5) v.2.2.1 dr (f_J9_floorMod_7cf53 tm (24 : Int32))) ⟨hx, hb, hml, hown, hts⟩ g_X8_131 hdv_X2_containsHour hK hST hS hP [1, 2, 3, 4, 5] rfl (k0 := 0) rfl rfl rfl ⟨Nat.le_of_ble_eq_true rfl, Nat.le_of_ble_eq_true rfl⟩ ⟨Nat.le_of_ble_eq_true rfl, Nat.le_of_ble_eq_true rfl⟩ rfl hl.1 rfl (Nat.le_of_ble_eq_true rfl) dX8_isUnlockedAt_69 rfl (fun b_11 => ?_)
      refine lv_if_eq (tgt := 79) hx hb dX8_isUnlockedAt_72 (by decide) (fun c_12 => ?_) (fun c_12 => ?_)
      · have hF := hF.trans (if_pos c_12)
        refine lv_iconst (v := (0 : Int32)) hx hb dX8_isUnlockedAt_79 (by decide) ?_
        exact r_ret hx hb hr hlk rfl (by rw [hF]) (by rw [hF]; exact (rfl : narrow .boolean (.int (0 : Int32)) = .int (0 : Int32))) dX8_isUnlockedAt_80
      · have hF := hF.trans (if_neg c_12)
        refine lv_iconst (v := (1 : Int32)) hx hb dX8_isUnlockedAt_75 (by decide) ?_
        refine lv_goto (tgt := 80) hx hb dX8_isUnlockedAt_76 (by decide) ?_
        exact r_ret hx hb hr hlk rfl (by rw [hF]) (by rw [hF]; exact (rfl : narrow .boolean (.int (1 : Int32)) = .int (1 : Int32))) dX8_isUnlockedAt_80
  · have hF := hF.trans (if_neg c_6)
    refine lv_iload hx hb dX8_isUnlockedAt_30 (lv_at hl 0 rfl) ?_
    refine lv_iconst (v := (1 : Int32)) hx hb dX8_isUnlockedAt_32 (by decide) ?_
    refine lv_icmp_ne (tgt := 40) hx hb dX8_isUnlockedAt_33 (by decide) (fun c_13 => ?_) (fun c_13 => ?_)
    · have hF := hF.trans (if_neg c_13)
      refine lv_iconst (v := (0 : Int32)) hx hb dX8_isUnlockedAt_40 (by decide) ?_
      exact r_ret hx hb hr hlk rfl (by rw [hF]) (by rw [hF]; exact (rfl : narrow .boolean (.int (0 : Int32)) = .int (0 : Int32))) dX8_isUnlockedAt_41
    · have hF := hF.trans (if_pos c_13)
      refine lv_iconst (v := (1 : Int32)) hx hb dX8_isUnlockedAt_36 (by decide) ?_
      refine lv_goto (tgt := 41) hx hb dX8_isUnlockedAt_37 (by decide) ?_
      exact r_ret hx hb hr hlk rfl (by rw [hF]) (by rw [hF]; exact (rfl : narrow .boolean (.int (1 : Int32)) = .int (1 : Int32))) dX8_isUnlockedAt_41
theorem dX8_lookHourByHour_0 : decode cX8_lookHourByHour 0 = .ok (.iconst 0, 1) := by decide +kernel
theorem dX8_lookHourByHour_1 : decode cX8_lookHourByHour 1 = .ok (.istore_n 2, 1) := by decide +kernel
theorem dX8_lookHourByHour_2 : decode cX8_lookHourByHour 2 = .ok (.iload_n 2, 1) := by decide +kernel
theorem dX8_lookHourByHour_3 : decode cX8_lookHourByHour 3 = .ok (.sipush 1000, 3) := by decide +kernel
theorem dX8_lookHourByHour_6 : decode cX8_lookHourByHour 6 = .ok (.if_icmp .gt 25, 3) := by decide +kernel
theorem dX8_lookHourByHour_31 : decode cX8_lookHourByHour 31 = .ok (.iconst (-1), 1) := by decide +kernel
theorem dX8_lookHourByHour_32 : decode cX8_lookHourByHour 32 = .ok (.ireturn, 1) := by decide +kernel
theorem dX8_lookHourByHour_9 : decode cX8_lookHourByHour 9 = .ok (.aload_n 0, 1) := by decide +kernel
theorem dX8_lookHourByHour_10 : decode cX8_lookHourByHour 10 = .ok (.iload_n 1, 1) := by decide +kernel
theorem dX8_lookHourByHour_11 : decode cX8_lookHourByHour 11 = .ok (.aload_n 0, 1) := by decide +kernel
theorem dX8_lookHourByHour_12 : decode cX8_lookHourByHour 12 = .ok (.getfield 9, 3) := by decide +kernel
theorem dX8_lookHourByHour_15 : decode cX8_lookHourByHour 15 = .ok (.iload_n 2, 1) := by decide +kernel
theorem dX8_lookHourByHour_16 : decode cX8_lookHourByHour 16 = .ok (.iadd, 1) := by decide +kernel
theorem dX8_lookHourByHour_17 : decode cX8_lookHourByHour 17 = .ok (.invokevirtual 134, 3) := by decide +kernel
theorem u_849 : Cond.methodLink RX8 134 yX8_isUnlockedAt ∈ UW := uw 849 (by decide +kernel) rfl
theorem u_516 : Cond.instanceMethod yX8_isUnlockedAt ∈ UW := uw 516 (by decide +kernel) rfl
theorem u_517 : Cond.selects RX8 yX8_isUnlockedAt yX8_isUnlockedAt ∈ UW := uw 517 (by decide +kernel) rfl
theorem u_518 : Cond.code yX8_isUnlockedAt cX8_isUnlockedAt 5 (some .boolean) ∈ UW := uw 518 (by decide +kernel) rfl
theorem g_X8_134 : GoodIn UW (wsV RX8 134 RX8 yX8_isUnlockedAt (wsU yX8_isUnlockedAt cX8_isUnlockedAt 5 (some .boolean))) := gV u_849 u_516 u_517 u_22 u_518
theorem hdv_X8_isUnlockedAt : yX8_isUnlockedAt.cls = RX8 ∧ yX8_isUnlockedAt.cls ≠ "java/lang/invoke/MethodHandle" ∧ yX8_isUnlockedAt.cls ≠ "java/lang/invoke/VarHandle" ∧ (parseMethodDescriptor yX8_isUnlockedAt.desc).map (fun d => d.parameters.length) = some 2 := by decide +kernel
theorem dX8_lookHourByHour_20 : decode cX8_lookHourByHour 20 = .ok (.ifCond .eq 5, 3) := by decide +kernel
theorem dX8_lookHourByHour_25 : decode cX8_lookHourByHour 25 = .ok (.iinc 2 1, 3) := by decide +kernel
theorem dX8_lookHourByHour_28 : decode cX8_lookHourByHour 28 = .ok (.goto (-26), 3) := by decide +kernel
theorem dX8_lookHourByHour_23 : decode cX8_lookHourByHour 23 = .ok (.iload_n 2, 1) := by decide +kernel
theorem dX8_lookHourByHour_24 : decode cX8_lookHourByHour 24 = .ok (.ireturn, 1) := by decide +kernel
def lp_X8_lookHourByHour_2 (v : StV) (dr : Int32) : Nat → Int32 → Int32
  | 0, _ => 0
  | n + 1, x2 => (if (1000 : Int32) < x2 then (-1 : Int32) else (if (f_X8_isUnlockedAt v dr (v.1 + x2)) = (0 : Int32) then (lp_X8_lookHourByHour_2 v dr n (x2 + 1)) else x2))
def f_X8_lookHourByHour (v : StV) (dr : Int32) : Int32 := (lp_X8_lookHourByHour_2 v dr ((((1000 : Int32)).toInt - ((0 : Int32)).toInt + 1).toNat + 1) (0 : Int32))
set_option maxHeartbeats 4000000 in
set_option maxRecDepth 100000 in
theorem c_X8_lookHourByHour (l : Launch) (G : GG) (va : Nat → Nat) (v : StV) (dr : Int32) : rMet l yX8_lookHourByHour cX8_lookHourByHour 3 (some .int) 4 G (fl [[((va 0), .inr (10, [.int v.1, .int v.2.1, .ref (va 1), .ref (va 6), .ref (va 10), .ref (va 13)]))], wDo G (va 1) (va 2) (va 3) (va 4) (va 5) v.2.2.1, wEx G (va 6) (va 7) (va 8) (va 9) v.2.2.2.1, wPe G (va 10) (va 11) (va 12) v.2.2.2.2.1, wAu G (va 13) (va 14) (va 15) (va 16) (va 17) (va 18) (va 19) v.2.2.2.2.2]) [.ref (va 0), .int dr] (some (.int (f_X8_lookHourByHour v dr))) (True) := by
  refine r_start (by decide +kernel) (Nat.le_of_ble_eq_true rfl) ?_
  intro p e s m below meth c hx hb hr hml hts hown hlk hP hK hST ls hl
  have hS : va_S (fun _ => False) s.heap s.heap [] := va_S.rf
  have hown : s.vm.findClass RX8 = some m.cls := hown
  have hl : lv_has ls 3 [(0, .ref (va 0)), (1, .int dr)] := hl
  have hF : f_X8_lookHourByHour v dr = (lp_X8_lookHourByHour_2 v dr ((((1000 : Int32)).toInt - ((0 : Int32)).toInt + 1).toNat + 1) (0 : Int32)) := rfl
  refine lv_iconst (v := (0 : Int32)) hx hb dX8_lookHourByHour_0 (by decide) ?_
  refine lv_istore_n (lv' := [(2, .int (0 : Int32)), (0, .ref (va 0)), (1, .int dr)]) hx hb dX8_lookHourByHour_1 rfl hl (by decide) rfl (fun ls hl => ?_)
  have L2 : ∀ (n : Nat) (x2 : Int32) (ls : Array Slot), lv_has ls 3 [(2, .int x2), (0, .ref (va 0)), (1, .int dr)] → (upE x2 (1000 : Int32) n) → f_X8_lookHourByHour v dr = lp_X8_lookHourByHour_2 v dr n x2 → W p l e (rmd 4 0 0) s m ([.ref (va 0), .int dr] : List Value).toArray below meth c s.heap [] 0 0 (MQ below (rQ (some (.int (f_X8_lookHourByHour v dr))) (True)) ([.ref (va 0), .int dr] : List Value).toArray s 0 0 (fun _ => False)) (F0 m 2 ls []) := by
    intro n
    induction n with
    | zero => intro x2 ls hl hu; exact absurd hu (upE_0)
    | succ n ih =>
      intro x2 ls hl hu hF
      have hF : f_X8_lookHourByHour v dr = (if (1000 : Int32) < x2 then (-1 : Int32) else (if (f_X8_isUnlockedAt v dr (v.1 + x2)) = (0 : Int32) then (lp_X8_lookHourByHour_2 v dr n (x2 + 1)) else x2)) := hF
      refine lv_iload_n hx hb dX8_lookHourByHour_2 rfl (lv_at hl 0 rfl) ?_
      refine lv_sipush (v := (1000 : Int32)) hx hb dX8_lookHourByHour_3 (by decide) ?_
      refine lv_icmp_gt (tgt := 31) hx hb dX8_lookHourByHour_6 (by decide) (fun c_1 => ?_) (fun c_1 => ?_)
      · have hF := hF.trans (if_pos c_1)
        refine lv_iconst (v := (-1 : Int32)) hx hb dX8_lookHourByHour_31 (by decide) ?_
        exact r_ret hx hb hr hlk rfl (by rw [hF]) trivial dX8_lookHourByHour_32
      · have hF := hF.trans (if_neg c_1)
        refine lv_aload_n hx hb dX8_lookHourByHour_9 rfl (lv_at hl 1 rfl) ?_
        refine lv_iload_n hx hb dX8_lookHourByHour_10 rfl (lv_at hl 2 rfl) ?_
        refine lv_aload_n hx hb dX8_lookHourByHour_11 rfl (lv_at hl 1 rfl) ?_
        refine va_get (D := G.1) (ci := 10) (v := .int v.1) (C := RX8) (T := TX8) (N := 6) hx hb hts uws_X8 hown hK hP 0 rfl rfl 0 (by decide) (hts _ u_1024) (fun _ h9 => h9) rfl dX8_lookHourByHour_12 ?_
        refine lv_iload_n hx hb dX8_lookHourByHour_15 rfl (lv_at hl 0 rfl) ?_
        refine lv_iadd hx hb dX8_lookHourByHour_16 ?_
        refine r_V (own := RX8) (v := (some (.int (f_X8_isUnlockedAt v dr (v.1 + x2))))) (st1 := [.int (f_X8_isUnlockedAt v dr (v.1 + x2))]) (As := [.int dr, .int (v.1 + x2)]) (rest := []) (c_X8_isUnlockedAt l G va v dr (v.1 + x2)) ⟨hx, hb, hml, hown, hts⟩ g_X8_134 hdv_X8_isUnlockedAt hK hST hS hP [0, 1, 2, 3, 4, 5, 6, 7, 8, 9, 10, 11, 12, 13, 14, 15, 16, 17, 18, 19] rfl (k0 := 0) rfl rfl rfl ⟨Nat.le_of_ble_eq_true rfl, Nat.le_of_ble_eq_true rfl⟩ ⟨Nat.le_of_ble_eq_true rfl, Nat.le_of_ble_eq_true rfl⟩ rfl hl.1 rfl (Nat.le_of_ble_eq_true rfl) dX8_lookHourByHour_17 rfl (fun b_2 => ?_)
        refine lv_if_eq (tgt := 25) hx hb dX8_lookHourByHour_20 (by decide) (fun c_3 => ?_) (fun c_3 => ?_)
        · have hF := hF.trans (if_pos c_3)
          refine lv_iinc (v := (x2 + 1)) (lv' := [(2, .int (x2 + 1)), (0, .ref (va 0)), (1, .int dr)]) hx hb dX8_lookHourByHour_25 hl (k := 0) rfl rfl (by decide) rfl (fun ls hl => ?_)
          refine lv_goto (tgt := 2) hx hb dX8_lookHourByHour_28 (by decide) ?_
          exact ih (x2 + 1) ls (lv_sub hl [0, 1, 2] rfl) (upE_s (Int32.not_lt.mp c_1) (by decide) hu) hF
        · have hF := hF.trans (if_neg c_3)
          refine lv_iload_n hx hb dX8_lookHourByHour_23 rfl (lv_at hl 0 rfl) ?_
          exact r_ret hx hb hr hlk rfl (by rw [hF]) trivial dX8_lookHourByHour_24
  exact L2 ((((1000 : Int32)).toInt - ((0 : Int32)).toInt + 1).toNat + 1) (0 : Int32) ls (lv_sub hl [0, 1, 2] rfl) (upE_i) hF
theorem dX8_firstUnlockedHour_0 : decode cX8_firstUnlockedHour 0 = .ok (.aload_n 0, 1) := by decide +kernel
theorem dX8_firstUnlockedHour_1 : decode cX8_firstUnlockedHour 1 = .ok (.getfield 28, 3) := by decide +kernel
theorem dX8_firstUnlockedHour_4 : decode cX8_firstUnlockedHour 4 = .ok (.aload_n 0, 1) := by decide +kernel
theorem dX8_firstUnlockedHour_5 : decode cX8_firstUnlockedHour 5 = .ok (.getfield 28, 3) := by decide +kernel
theorem dX8_firstUnlockedHour_8 : decode cX8_firstUnlockedHour 8 = .ok (.iload_n 1, 1) := by decide +kernel
theorem dX8_firstUnlockedHour_9 : decode cX8_firstUnlockedHour 9 = .ok (.iload_n 2, 1) := by decide +kernel
theorem dX8_firstUnlockedHour_10 : decode cX8_firstUnlockedHour 10 = .ok (.invokevirtual 79, 3) := by decide +kernel
theorem dX8_firstUnlockedHour_13 : decode cX8_firstUnlockedHour 13 = .ok (.invokevirtual 115, 3) := by decide +kernel
theorem dX8_firstUnlockedHour_16 : decode cX8_firstUnlockedHour 16 = .ok (.istore 4, 2) := by decide +kernel
theorem dX8_firstUnlockedHour_18 : decode cX8_firstUnlockedHour 18 = .ok (.iload 4, 2) := by decide +kernel
theorem dX8_firstUnlockedHour_20 : decode cX8_firstUnlockedHour 20 = .ok (.iconst 1, 1) := by decide +kernel
theorem dX8_firstUnlockedHour_21 : decode cX8_firstUnlockedHour 21 = .ok (.if_icmp .ne 5, 3) := by decide +kernel
theorem dX8_firstUnlockedHour_26 : decode cX8_firstUnlockedHour 26 = .ok (.iload 4, 2) := by decide +kernel
theorem dX8_firstUnlockedHour_28 : decode cX8_firstUnlockedHour 28 = .ok (.iconst 2, 1) := by decide +kernel
theorem dX8_firstUnlockedHour_29 : decode cX8_firstUnlockedHour 29 = .ok (.if_icmp .eq 19, 3) := by decide +kernel
theorem dX8_firstUnlockedHour_48 : decode cX8_firstUnlockedHour 48 = .ok (.iconst (-1), 1) := by decide +kernel
theorem dX8_firstUnlockedHour_49 : decode cX8_firstUnlockedHour 49 = .ok (.ireturn, 1) := by decide +kernel
theorem dX8_firstUnlockedHour_32 : decode cX8_firstUnlockedHour 32 = .ok (.aload_n 0, 1) := by decide +kernel
theorem dX8_firstUnlockedHour_33 : decode cX8_firstUnlockedHour 33 = .ok (.getfield 21, 3) := by decide +kernel
theorem dX8_firstUnlockedHour_36 : decode cX8_firstUnlockedHour 36 = .ok (.iload_n 1, 1) := by decide +kernel
theorem dX8_firstUnlockedHour_37 : decode cX8_firstUnlockedHour 37 = .ok (.aload_n 0, 1) := by decide +kernel
theorem dX8_firstUnlockedHour_38 : decode cX8_firstUnlockedHour 38 = .ok (.iload_n 2, 1) := by decide +kernel
theorem dX8_firstUnlockedHour_39 : decode cX8_firstUnlockedHour 39 = .ok (.invokevirtual 100, 3) := by decide +kernel
theorem dX8_firstUnlockedHour_42 : decode cX8_firstUnlockedHour 42 = .ok (.invokevirtual 125, 3) := by decide +kernel
theorem dX8_firstUnlockedHour_45 : decode cX8_firstUnlockedHour 45 = .ok (.ifCond .ne 5, 3) := by decide +kernel
theorem dX8_firstUnlockedHour_50 : decode cX8_firstUnlockedHour 50 = .ok (.aload_n 0, 1) := by decide +kernel
theorem dX8_firstUnlockedHour_51 : decode cX8_firstUnlockedHour 51 = .ok (.getfield 21, 3) := by decide +kernel
theorem dX8_firstUnlockedHour_54 : decode cX8_firstUnlockedHour 54 = .ok (.iload_n 1, 1) := by decide +kernel
theorem dX8_firstUnlockedHour_55 : decode cX8_firstUnlockedHour 55 = .ok (.iload_n 3, 1) := by decide +kernel
theorem dX8_firstUnlockedHour_56 : decode cX8_firstUnlockedHour 56 = .ok (.invokevirtual 141, 3) := by decide +kernel
theorem u_1556 : Cond.methodLink RX8 141 yX2_firstHourFrom ∈ UW := uw 1556 (by decide +kernel) rfl
theorem u_1557 : Cond.instanceMethod yX2_firstHourFrom ∈ UW := uw 1557 (by decide +kernel) rfl
theorem u_1558 : Cond.selects RX2 yX2_firstHourFrom yX2_firstHourFrom ∈ UW := uw 1558 (by decide +kernel) rfl
theorem u_1559 : Cond.code yX2_firstHourFrom cX2_firstHourFrom 4 (some .int) ∈ UW := uw 1559 (by decide +kernel) rfl
theorem g_X8_141 : GoodIn UW (wsV RX8 141 RX2 yX2_firstHourFrom (wsU yX2_firstHourFrom cX2_firstHourFrom 4 (some .int))) := gV u_1556 u_1557 u_1558 u_23 u_1559
theorem hdv_X2_firstHourFrom : yX2_firstHourFrom.cls = RX2 ∧ yX2_firstHourFrom.cls ≠ "java/lang/invoke/MethodHandle" ∧ yX2_firstHourFrom.cls ≠ "java/lang/invoke/VarHandle" ∧ (parseMethodDescriptor yX2_firstHourFrom.desc).map (fun d => d.parameters.length) = some 2 := by decide +kernel
theorem dX8_firstUnlockedHour_59 : decode cX8_firstUnlockedHour 59 = .ok (.ireturn, 1) := by decide +kernel
theorem dX8_firstUnlockedHour_24 : decode cX8_firstUnlockedHour 24 = .ok (.iload_n 3, 1) := by decide +kernel
theorem dX8_firstUnlockedHour_25 : decode cX8_firstUnlockedHour 25 = .ok (.ireturn, 1) := by decide +kernel
def f_X8_firstUnlockedHour (v : StV) (dr : Int32) (dy : Int32) (fr : Int32) : Int32 := (let y_3 : Int32 := (f_X1_effectAt v.2.2.2.1 (f_X1_positionOf v.2.2.2.1 dr dy)); (if y_3 = (1 : Int32) then fr else (if y_3 = (2 : Int32) then (-1 : Int32) else (if (f_X2_containsPhase v.2.2.1 dr (f_X8_phaseFor v dy)) = (0 : Int32) then (-1 : Int32) else (f_X2_firstHourFrom v.2.2.1 dr fr)))))
set_option maxHeartbeats 4000000 in
set_option maxRecDepth 100000 in
theorem c_X8_firstUnlockedHour (l : Launch) (G : GG) (va : Nat → Nat) (v : StV) (dr : Int32) (dy : Int32) (fr : Int32) : rMet l yX8_firstUnlockedHour cX8_firstUnlockedHour 5 (some .int) 4 G (fl [[((va 0), .inr (10, [.int v.1, .int v.2.1, .ref (va 1), .ref (va 6), .ref (va 10), .ref (va 13)]))], wDo G (va 1) (va 2) (va 3) (va 4) (va 5) v.2.2.1, wEx G (va 6) (va 7) (va 8) (va 9) v.2.2.2.1, wPe G (va 10) (va 11) (va 12) v.2.2.2.2.1, wAu G (va 13) (va 14) (va 15) (va 16) (va 17) (va 18) (va 19) v.2.2.2.2.2]) [.ref (va 0), .int dr, .int dy, .int fr] (some (.int (f_X8_firstUnlockedHour v dr dy fr))) (True) := by
  refine r_start (by decide +kernel) (Nat.le_of_ble_eq_true rfl) ?_
  intro p e s m below meth c hx hb hr hml hts hown hlk hP hK hST ls hl
  have hS : va_S (fun _ => False) s.heap s.heap [] := va_S.rf
  have hown : s.vm.findClass RX8 = some m.cls := hown
  have hl : lv_has ls 5 [(0, .ref (va 0)), (1, .int dr), (2, .int dy), (3, .int fr)] := hl
  have hF : f_X8_firstUnlockedHour v dr dy fr = (let y_3 : Int32 := (f_X1_effectAt v.2.2.2.1 (f_X1_positionOf v.2.2.2.1 dr dy)); (if y_3 = (1 : Int32) then fr else (if y_3 = (2 : Int32) then (-1 : Int32) else (if (f_X2_containsPhase v.2.2.1 dr (f_X8_phaseFor v dy)) = (0 : Int32) then (-1 : Int32) else (f_X2_firstHourFrom v.2.2.1 dr fr))))) := rfl
  refine lv_aload_n hx hb dX8_firstUnlockedHour_0 rfl (lv_at hl 0 rfl) ?_
  refine va_get (D := G.1) (ci := 10) (v := .ref (va 6)) (C := RX8) (T := TX8) (N := 6) hx hb hts uws_X8 hown hK hP 0 rfl rfl 3 (by decide) (hts _ u_1029) (fun _ h9 => h9) rfl dX8_firstUnlockedHour_1 ?_
  refine lv_aload_n hx hb dX8_firstUnlockedHour_4 rfl (lv_at hl 0 rfl) ?_
  refine va_get (D := G.1) (ci := 10) (v := .ref (va 6)) (C := RX8) (T := TX8) (N := 6) hx hb hts uws_X8 hown hK hP 0 rfl rfl 3 (by decide) (hts _ u_1029) (fun _ h9 => h9) rfl dX8_firstUnlockedHour_5 ?_
  refine lv_iload_n hx hb dX8_firstUnlockedHour_8 rfl (lv_at hl 1 rfl) ?_
  refine lv_iload_n hx hb dX8_firstUnlockedHour_9 rfl (lv_at hl 2 rfl) ?_
  refine r_V (own := RX8) (v := (some (.int (f_X1_positionOf v.2.2.2.1 dr dy)))) (st1 := [.int (f_X1_positionOf v.2.2.2.1 dr dy), .ref (va 6)]) (As := [.int dr, .int dy]) (rest := [.ref (va 6)]) (c_X1_positionOf l G (va 6) (va 7) (va 8) (va 9) v.2.2.2.1 dr dy) ⟨hx, hb, hml, hown, hts⟩ g_X8_79 hdv_X1_positionOf hK hST hS hP [6, 7, 8, 9] rfl (k0 := 0) rfl rfl rfl ⟨Nat.le_of_ble_eq_true rfl, Nat.le_of_ble_eq_true rfl⟩ ⟨Nat.le_of_ble_eq_true rfl, Nat.le_of_ble_eq_true rfl⟩ rfl hl.1 rfl (Nat.le_of_ble_eq_true rfl) dX8_firstUnlockedHour_10 rfl (fun b_1 => ?_)
  refine r_V (own := RX8) (v := (some (.int (f_X1_effectAt v.2.2.2.1 (f_X1_positionOf v.2.2.2.1 dr dy))))) (st1 := [.int (f_X1_effectAt v.2.2.2.1 (f_X1_positionOf v.2.2.2.1 dr dy))]) (As := [.int (f_X1_positionOf v.2.2.2.1 dr dy)]) (rest := []) (c_X1_effectAt l G (va 6) (va 7) (va 8) (va 9) v.2.2.2.1 (f_X1_positionOf v.2.2.2.1 dr dy)) ⟨hx, hb, hml, hown, hts⟩ g_X8_115 hdv_X1_effectAt hK hST hS hP [6, 7, 8, 9] rfl (k0 := 0) rfl rfl rfl ⟨Nat.le_of_ble_eq_true rfl, Nat.le_of_ble_eq_true rfl⟩ ⟨Nat.le_of_ble_eq_true rfl, Nat.le_of_ble_eq_true rfl⟩ rfl hl.1 rfl (Nat.le_of_ble_eq_true rfl) dX8_firstUnlockedHour_13 rfl (fun b_2 => ?_)
  refine lv_topi (fun y_3 ey_3 => ?_)
  have hF : f_X8_firstUnlockedHour v dr dy fr = (if y_3 = (1 : Int32) then fr else (if y_3 = (2 : Int32) then (-1 : Int32) else (if (f_X2_containsPhase v.2.2.1 dr (f_X8_phaseFor v dy)) = (0 : Int32) then (-1 : Int32) else (f_X2_firstHourFrom v.2.2.1 dr fr)))) := by subst ey_3; exact hF
  refine lv_istore (lv' := [(4, .int y_3), (0, .ref (va 0)), (1, .int dr), (2, .int dy), (3, .int fr)]) hx hb dX8_firstUnlockedHour_16 hl (by decide) rfl (fun ls hl => ?_)
  refine lv_iload hx hb dX8_firstUnlockedHour_18 (lv_at hl 0 rfl) ?_
  refine lv_iconst (v := (1 : Int32)) hx hb dX8_firstUnlockedHour_20 (by decide) ?_
  refine lv_icmp_ne (tgt := 26) hx hb dX8_firstUnlockedHour_21 (by decide) (fun c_4 => ?_) (fun c_4 => ?_)
  · have hF := hF.trans (if_neg c_4)
    refine lv_iload hx hb dX8_firstUnlockedHour_26 (lv_at hl 0 rfl) ?_
    refine lv_iconst (v := (2 : Int32)) hx hb dX8_firstUnlockedHour_28 (by decide) ?_
    refine lv_icmp_eq (tgt := 48) hx hb dX8_firstUnlockedHour_29 (by decide) (fun c_5 => ?_) (fun c_5 => ?_)
    · have hF := hF.trans (if_pos c_5)
      refine lv_iconst (v := (-1 : Int32)) hx hb dX8_firstUnlockedHour_48 (by decide) ?_
      exact r_ret hx hb hr hlk rfl (by rw [hF]) trivial dX8_firstUnlockedHour_49
    · have hF := hF.trans (if_neg c_5)
      refine lv_aload_n hx hb dX8_firstUnlockedHour_32 rfl (lv_at hl 1 rfl) ?_
      refine va_get (D := G.1) (ci := 10) (v := .ref (va 1)) (C := RX8) (T := TX8) (N := 6) hx hb hts uws_X8 hown hK hP 0 rfl rfl 2 (by decide) (hts _ u_1027) (fun _ h9 => h9) rfl dX8_firstUnlockedHour_33 ?_
      refine lv_iload_n hx hb dX8_firstUnlockedHour_36 rfl (lv_at hl 2 rfl) ?_
      refine lv_aload_n hx hb dX8_firstUnlockedHour_37 rfl (lv_at hl 1 rfl) ?_
      refine lv_iload_n hx hb dX8_firstUnlockedHour_38 rfl (lv_at hl 3 rfl) ?_
      refine r_V (own := RX8) (v := (some (.int (f_X8_phaseFor v dy)))) (st1 := [.int (f_X8_phaseFor v dy), .int dr, .ref (va 1)]) (As := [.int dy]) (rest := [.int dr, .ref (va 1)]) (c_X8_phaseFor l G va v dy) ⟨hx, hb, hml, hown, hts⟩ g_X8_100 hdv_X8_phaseFor hK hST hS hP [0, 1, 2, 3, 4, 5, 6, 7, 8, 9, 10, 11, 12, 13, 14, 15, 16, 17, 18, 19] rfl (k0 := 0) rfl rfl rfl ⟨Nat.le_of_ble_eq_true rfl, Nat.le_of_ble_eq_true rfl⟩ ⟨Nat.le_of_ble_eq_true rfl, Nat.le_of_ble_eq_true rfl⟩ rfl hl.1 rfl (Nat.le_of_ble_eq_true rfl) dX8_firstUnlockedHour_39 rfl (fun b_6 => ?_)
      refine r_V (own := RX8) (v := (some (.int (f_X2_containsPhase v.2.2.1 dr (f_X8_phaseFor v dy))))) (st1 := [.int (f_X2_containsPhase v.2.2.1 dr (f_X8_phaseFor v dy))]) (As := [.int dr, .int (f_X8_phaseFor v dy)]) (rest := []) (c_X2_containsPhase l G (va 1) (va 2) (va 3) (va 4) (va 5) v.2.2.1 dr (f_X8_phaseFor v dy)) ⟨hx, hb, hml, hown, hts⟩ g_X8_125 hdv_X2_containsPhase hK hST hS hP [1, 2, 3, 4, 5] rfl (k0 := 0) rfl rfl rfl ⟨Nat.le_of_ble_eq_true rfl, Nat.le_of_ble_eq_true rfl⟩ ⟨Nat.le_of_ble_eq_true rfl, Nat.le_of_ble_eq_true rfl⟩ rfl hl.1 rfl (Nat.le_of_ble_eq_true rfl) dX8_firstUnlockedHour_42 rfl (fun b_7 => ?_)
      refine lv_if_ne (tgt := 50) hx hb dX8_firstUnlockedHour_45 (by decide) (fun c_8 => ?_) (fun c_8 => ?_)
      · have hF := hF.trans (if_neg c_8)
        refine lv_aload_n hx hb dX8_firstUnlockedHour_50 rfl (lv_at hl 1 rfl) ?_
        refine va_get (D := G.1) (ci := 10) (v := .ref (va 1)) (C := RX8) (T := TX8) (N := 6) hx hb hts uws_X8 hown hK hP 0 rfl rfl 2 (by decide) (hts _ u_1027) (fun _ h9 => h9) rfl dX8_firstUnlockedHour_51 ?_
        refine lv_iload_n hx hb dX8_firstUnlockedHour_54 rfl (lv_at hl 2 rfl) ?_
        refine lv_iload_n hx hb dX8_firstUnlockedHour_55 rfl (lv_at hl 4 rfl) ?_
        refine r_V (own := RX8) (v := (some (.int (f_X2_firstHourFrom v.2.2.1 dr fr)))) (st1 := [.int (f_X2_firstHourFrom v.2.2.1 dr fr)]) (As := [.int dr, .int fr]) (rest := []) (c_X2_firstHourFrom l G (va 1) (va 2) (va 3) (va 4) (va 5) v.2.2.1 dr fr) ⟨hx, hb, hml, hown, hts⟩ g_X8_141 hdv_X2_firstHourFrom hK hST hS hP [1, 2, 3, 4, 5] rfl (k0 := 0) rfl rfl rfl ⟨Nat.le_of_ble_eq_true rfl, Nat.le_of_ble_eq_true rfl⟩ ⟨Nat.le_of_ble_eq_true rfl, Nat.le_of_ble_eq_true rfl⟩ rfl hl.1 rfl (Nat.le_of_ble_eq_true rfl) dX8_firstUnlockedHour_56 rfl (fun b_9 => ?_)
        exact r_ret hx hb hr hlk rfl (by rw [hF]) trivial dX8_firstUnlockedHour_59
      · have hF := hF.trans (if_pos c_8)
        refine lv_iconst (v := (-1 : Int32)) hx hb dX8_firstUnlockedHour_48 (by decide) ?_
        exact r_ret hx hb hr hlk rfl (by rw [hF]) trivial dX8_firstUnlockedHour_49
  · have hF := hF.trans (if_pos c_4)
    refine lv_iload_n hx hb dX8_firstUnlockedHour_24 rfl (lv_at hl 4 rfl) ?_
    exact r_ret hx hb hr hlk rfl (by rw [hF]) trivial dX8_firstUnlockedHour_25
