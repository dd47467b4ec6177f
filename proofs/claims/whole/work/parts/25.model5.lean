theorem dX10_doorCount_0 : decode cX10_doorCount 0 = .ok (.aload_n 0, 1) := by decide +kernel
theorem dX10_doorCount_1 : decode cX10_doorCount 1 = .ok (.iconst 0, 1) := by decide +kernel
theorem dX10_doorCount_2 : decode cX10_doorCount 2 = .ok (.putfield 38, 3) := by decide +kernel
theorem dX10_doorCount_5 : decode cX10_doorCount 5 = .ok (.aload_n 0, 1) := by decide +kernel
theorem dX10_doorCount_6 : decode cX10_doorCount 6 = .ok (.getfield 9, 3) := by decide +kernel
theorem dX10_doorCount_9 : decode cX10_doorCount 9 = .ok (.iconst 2, 1) := by decide +kernel
theorem dX10_doorCount_10 : decode cX10_doorCount 10 = .ok (.iaload, 1) := by decide +kernel
theorem dX10_doorCount_11 : decode cX10_doorCount 11 = .ok (.ireturn, 1) := by decide +kernel
def f_X10_doorCount (d : MoV) : Int32 × MoV := ((d.1 (2 : Int32).toNatClampNeg), (mo5 d (0 : Int32)))
set_option maxHeartbeats 4000000 in
set_option maxRecDepth 100000 in
theorem c_X10_doorCount (l : Launch) (G : GG) (dh0 : Nat) (dh1 : Nat) (dh2 : Nat) (dh3 : Nat) (dh4 : Nat) (dh5 : Nat) (dh6 : Nat) (dh7 : Nat) (sz : Nat) (d : MoV) : wMet l yX10_doorCount cX10_doorCount 1 (some .int) 1 0 0 G (fl [wMo G dh0 dh1 dh2 dh3 dh4 dh5 dh6 dh7 d]) [.ref dh0] sz (fun u : Int32 × MoV => some (.int u.1)) (fun u : Int32 × MoV => u = f_X10_doorCount d) (fun u : Int32 × MoV => fl [wMo G dh0 dh1 dh2 dh3 dh4 dh5 dh6 dh7 u.2]) := by
  refine w_start (by decide +kernel) (Nat.le_of_ble_eq_true rfl) ?_
  intro p e s m below meth c A hx hb hr hml hts hown hlk hin hP hD hA hK hST ls hl
  have hS : va_S A s.heap s.heap [] := va_S.rf
  have hown : s.vm.findClass RX10 = some m.cls := hown
  have hl : lv_has ls 1 [(0, .ref dh0)] := hl
  have hF : f_X10_doorCount d = ((d.1 (2 : Int32).toNatClampNeg), (mo5 d (0 : Int32))) := rfl
  refine lv_aload_n hx hb dX10_doorCount_0 rfl (lv_at hl 0 rfl) ?_
  refine lv_iconst (v := (0 : Int32)) hx hb dX10_doorCount_1 (by decide) ?_
  refine va_put (D := G.1) (ci := 12) (v := .int (0 : Int32)) (ty := .int) (C := RX10) (T := TX10) (N := 17) hx hb hts uws_X10 tyX10 tyX10_ok nmX10 hown hK hP hD hS 0 rfl rfl 5 (by decide) (hts _ u_1685) (fun _ h9 => h9) rfl (by decide +kernel) rfl rfl (Nat.le_of_ble_eq_true rfl) dX10_doorCount_2 (fun H locs hP hD hS => ?_)
  have hP : va_P G.1 vwCl (fl [wMo G dh0 dh1 dh2 dh3 dh4 dh5 dh6 dh7 (mo5 d (0 : Int32))]) H := hP
  have hD : va_D A (fl [wMo G dh0 dh1 dh2 dh3 dh4 dh5 dh6 dh7 (mo5 d (0 : Int32))]) := hD
  refine lv_aload_n hx hb dX10_doorCount_5 rfl (lv_at hl 0 rfl) ?_
  refine va_get (D := G.1) (ci := 12) (v := .ref dh1) (C := RX10) (T := TX10) (N := 17) hx hb hts uws_X10 hown hK hP 0 rfl rfl 0 (by decide) (hts _ u_1680) (fun _ h9 => h9) rfl dX10_doorCount_6 ?_
  refine lv_iconst (v := (2 : Int32)) hx hb dX10_doorCount_9 (by decide) ?_
  refine va_iald hx hb hK hP 1 0 rfl rfl (vp_in_nI (n := 2) (by decide) (by decide)) dX10_doorCount_10 ?_
  exact w_ret (u := ((d.1 (2 : Int32).toNatClampNeg), (mo5 d (0 : Int32)))) hx hb hr hlk rfl hS rfl hF.symm hP hD (Nat.le_of_ble_eq_true rfl) (Nat.le_of_ble_eq_true rfl) dX10_doorCount_11
theorem dX10_exceptionCount_0 : decode cX10_exceptionCount 0 = .ok (.aload_n 0, 1) := by decide +kernel
theorem dX10_exceptionCount_1 : decode cX10_exceptionCount 1 = .ok (.iconst 0, 1) := by decide +kernel
theorem dX10_exceptionCount_2 : decode cX10_exceptionCount 2 = .ok (.putfield 38, 3) := by decide +kernel
theorem dX10_exceptionCount_5 : decode cX10_exceptionCount 5 = .ok (.aload_n 0, 1) := by decide +kernel
theorem dX10_exceptionCount_6 : decode cX10_exceptionCount 6 = .ok (.getfield 9, 3) := by decide +kernel
theorem dX10_exceptionCount_9 : decode cX10_exceptionCount 9 = .ok (.iconst 4, 1) := by decide +kernel
theorem dX10_exceptionCount_10 : decode cX10_exceptionCount 10 = .ok (.iaload, 1) := by decide +kernel
theorem dX10_exceptionCount_11 : decode cX10_exceptionCount 11 = .ok (.ireturn, 1) := by decide +kernel
def f_X10_exceptionCount (d : MoV) : Int32 × MoV := ((d.1 (4 : Int32).toNatClampNeg), (mo5 d (0 : Int32)))
set_option maxHeartbeats 4000000 in
set_option maxRecDepth 100000 in
theorem c_X10_exceptionCount (l : Launch) (G : GG) (dh0 : Nat) (dh1 : Nat) (dh2 : Nat) (dh3 : Nat) (dh4 : Nat) (dh5 : Nat) (dh6 : Nat) (dh7 : Nat) (sz : Nat) (d : MoV) : wMet l yX10_exceptionCount cX10_exceptionCount 1 (some .int) 1 0 0 G (fl [wMo G dh0 dh1 dh2 dh3 dh4 dh5 dh6 dh7 d]) [.ref dh0] sz (fun u : Int32 × MoV => some (.int u.1)) (fun u : Int32 × MoV => u = f_X10_exceptionCount d) (fun u : Int32 × MoV => fl [wMo G dh0 dh1 dh2 dh3 dh4 dh5 dh6 dh7 u.2]) := by
  refine w_start (by decide +kernel) (Nat.le_of_ble_eq_true rfl) ?_
  intro p e s m below meth c A hx hb hr hml hts hown hlk hin hP hD hA hK hST ls hl
  have hS : va_S A s.heap s.heap [] := va_S.rf
  have hown : s.vm.findClass RX10 = some m.cls := hown
  have hl : lv_has ls 1 [(0, .ref dh0)] := hl
  have hF : f_X10_exceptionCount d = ((d.1 (4 : Int32).toNatClampNeg), (mo5 d (0 : Int32))) := rfl
  refine lv_aload_n hx hb dX10_exceptionCount_0 rfl (lv_at hl 0 rfl) ?_
  refine lv_iconst (v := (0 : Int32)) hx hb dX10_exceptionCount_1 (by decide) ?_
  refine va_put (D := G.1) (ci := 12) (v := .int (0 : Int32)) (ty := .int) (C := RX10) (T := TX10) (N := 17) hx hb hts uws_X10 tyX10 tyX10_ok nmX10 hown hK hP hD hS 0 rfl rfl 5 (by decide) (hts _ u_1685) (fun _ h9 => h9) rfl (by decide +kernel) rfl rfl (Nat.le_of_ble_eq_true rfl) dX10_exceptionCount_2 (fun H locs hP hD hS => ?_)
  have hP : va_P G.1 vwCl (fl [wMo G dh0 dh1 dh2 dh3 dh4 dh5 dh6 dh7 (mo5 d (0 : Int32))]) H := hP
  have hD : va_D A (fl [wMo G dh0 dh1 dh2 dh3 dh4 dh5 dh6 dh7 (mo5 d (0 : Int32))]) := hD
  refine lv_aload_n hx hb dX10_exceptionCount_5 rfl (lv_at hl 0 rfl) ?_
  refine va_get (D := G.1) (ci := 12) (v := .ref dh1) (C := RX10) (T := TX10) (N := 17) hx hb hts uws_X10 hown hK hP 0 rfl rfl 0 (by decide) (hts _ u_1680) (fun _ h9 => h9) rfl dX10_exceptionCount_6 ?_
  refine lv_iconst (v := (4 : Int32)) hx hb dX10_exceptionCount_9 (by decide) ?_
  refine va_iald hx hb hK hP 1 0 rfl rfl (vp_in_nI (n := 4) (by decide) (by decide)) dX10_exceptionCount_10 ?_
  exact w_ret (u := ((d.1 (4 : Int32).toNatClampNeg), (mo5 d (0 : Int32)))) hx hb hr hlk rfl hS rfl hF.symm hP hD (Nat.le_of_ble_eq_true rfl) (Nat.le_of_ble_eq_true rfl) dX10_exceptionCount_11
theorem dX10_personCount_0 : decode cX10_personCount 0 = .ok (.aload_n 0, 1) := by decide +kernel
theorem dX10_personCount_1 : decode cX10_personCount 1 = .ok (.iconst 0, 1) := by decide +kernel
theorem dX10_personCount_2 : decode cX10_personCount 2 = .ok (.putfield 38, 3) := by decide +kernel
theorem dX10_personCount_5 : decode cX10_personCount 5 = .ok (.aload_n 0, 1) := by decide +kernel
theorem dX10_personCount_6 : decode cX10_personCount 6 = .ok (.getfield 9, 3) := by decide +kernel
theorem dX10_personCount_9 : decode cX10_personCount 9 = .ok (.iconst 3, 1) := by decide +kernel
theorem dX10_personCount_10 : decode cX10_personCount 10 = .ok (.iaload, 1) := by decide +kernel
theorem dX10_personCount_11 : decode cX10_personCount 11 = .ok (.ireturn, 1) := by decide +kernel
def f_X10_personCount (d : MoV) : Int32 × MoV := ((d.1 (3 : Int32).toNatClampNeg), (mo5 d (0 : Int32)))
set_option maxHeartbeats 4000000 in
set_option maxRecDepth 100000 in
theorem c_X10_personCount (l : Launch) (G : GG) (dh0 : Nat) (dh1 : Nat) (dh2 : Nat) (dh3 : Nat) (dh4 : Nat) (dh5 : Nat) (dh6 : Nat) (dh7 : Nat) (sz : Nat) (d : MoV) : wMet l yX10_personCount cX10_personCount 1 (some .int) 1 0 0 G (fl [wMo G dh0 dh1 dh2 dh3 dh4 dh5 dh6 dh7 d]) [.ref dh0] sz (fun u : Int32 × MoV => some (.int u.1)) (fun u : Int32 × MoV => u = f_X10_personCount d) (fun u : Int32 × MoV => fl [wMo G dh0 dh1 dh2 dh3 dh4 dh5 dh6 dh7 u.2]) := by
  refine w_start (by decide +kernel) (Nat.le_of_ble_eq_true rfl) ?_
  intro p e s m below meth c A hx hb hr hml hts hown hlk hin hP hD hA hK hST ls hl
  have hS : va_S A s.heap s.heap [] := va_S.rf
  have hown : s.vm.findClass RX10 = some m.cls := hown
  have hl : lv_has ls 1 [(0, .ref dh0)] := hl
  have hF : f_X10_personCount d = ((d.1 (3 : Int32).toNatClampNeg), (mo5 d (0 : Int32))) := rfl
  refine lv_aload_n hx hb dX10_personCount_0 rfl (lv_at hl 0 rfl) ?_
  refine lv_iconst (v := (0 : Int32)) hx hb dX10_personCount_1 (by decide) ?_
  refine va_put (D := G.1) (ci := 12) (v := .int (0 : Int32)) (ty := .int) (C := RX10) (T := TX10) (N := 17) hx hb hts uws_X10 tyX10 tyX10_ok nmX10 hown hK hP hD hS 0 rfl rfl 5 (by decide) (hts _ u_1685) (fun _ h9 => h9) rfl (by decide +kernel) rfl rfl (Nat.le_of_ble_eq_true rfl) dX10_personCount_2 (fun H locs hP hD hS => ?_)
  have hP : va_P G.1 vwCl (fl [wMo G dh0 dh1 dh2 dh3 dh4 dh5 dh6 dh7 (mo5 d (0 : Int32))]) H := hP
  have hD : va_D A (fl [wMo G dh0 dh1 dh2 dh3 dh4 dh5 dh6 dh7 (mo5 d (0 : Int32))]) := hD
  refine lv_aload_n hx hb dX10_personCount_5 rfl (lv_at hl 0 rfl) ?_
  refine va_get (D := G.1) (ci := 12) (v := .ref dh1) (C := RX10) (T := TX10) (N := 17) hx hb hts uws_X10 hown hK hP 0 rfl rfl 0 (by decide) (hts _ u_1680) (fun _ h9 => h9) rfl dX10_personCount_6 ?_
  refine lv_iconst (v := (3 : Int32)) hx hb dX10_personCount_9 (by decide) ?_
  refine va_iald hx hb hK hP 1 0 rfl rfl (vp_in_nI (n := 3) (by decide) (by decide)) dX10_personCount_10 ?_
  exact w_ret (u := ((d.1 (3 : Int32).toNatClampNeg), (mo5 d (0 : Int32)))) hx hb hr hlk rfl hS rfl hF.symm hP hD (Nat.le_of_ble_eq_true rfl) (Nat.le_of_ble_eq_true rfl) dX10_personCount_11
theorem dX10_day_0 : decode cX10_day 0 = .ok (.aload_n 0, 1) := by decide +kernel
theorem dX10_day_1 : decode cX10_day 1 = .ok (.iconst 0, 1) := by decide +kernel
theorem dX10_day_2 : decode cX10_day 2 = .ok (.putfield 38, 3) := by decide +kernel
theorem dX10_day_5 : decode cX10_day 5 = .ok (.aload_n 0, 1) := by decide +kernel
theorem dX10_day_6 : decode cX10_day 6 = .ok (.invokevirtual 85, 3) := by decide +kernel
theorem dX10_day_9 : decode cX10_day 9 = .ok (.ireturn, 1) := by decide +kernel
def f_X10_day (d : MoV) : Int32 × MoV := ((f_X10_today (mo5 d (0 : Int32))), (mo5 d (0 : Int32)))
set_option maxHeartbeats 4000000 in
set_option maxRecDepth 100000 in
theorem c_X10_day (l : Launch) (G : GG) (dh0 : Nat) (dh1 : Nat) (dh2 : Nat) (dh3 : Nat) (dh4 : Nat) (dh5 : Nat) (dh6 : Nat) (dh7 : Nat) (sz : Nat) (d : MoV) : wMet l yX10_day cX10_day 1 (some .int) 2 0 0 G (fl [wMo G dh0 dh1 dh2 dh3 dh4 dh5 dh6 dh7 d]) [.ref dh0] sz (fun u : Int32 × MoV => some (.int u.1)) (fun u : Int32 × MoV => u = f_X10_day d) (fun u : Int32 × MoV => fl [wMo G dh0 dh1 dh2 dh3 dh4 dh5 dh6 dh7 u.2]) := by
  refine w_start (by decide +kernel) (Nat.le_of_ble_eq_true rfl) ?_
  intro p e s m below meth c A hx hb hr hml hts hown hlk hin hP hD hA hK hST ls hl
  have hS : va_S A s.heap s.heap [] := va_S.rf
  have hown : s.vm.findClass RX10 = some m.cls := hown
  have hl : lv_has ls 1 [(0, .ref dh0)] := hl
  have hF : f_X10_day d = ((f_X10_today (mo5 d (0 : Int32))), (mo5 d (0 : Int32))) := rfl
  refine lv_aload_n hx hb dX10_day_0 rfl (lv_at hl 0 rfl) ?_
  refine lv_iconst (v := (0 : Int32)) hx hb dX10_day_1 (by decide) ?_
  refine va_put (D := G.1) (ci := 12) (v := .int (0 : Int32)) (ty := .int) (C := RX10) (T := TX10) (N := 17) hx hb hts uws_X10 tyX10 tyX10_ok nmX10 hown hK hP hD hS 0 rfl rfl 5 (by decide) (hts _ u_1685) (fun _ h9 => h9) rfl (by decide +kernel) rfl rfl (Nat.le_of_ble_eq_true rfl) dX10_day_2 (fun H locs hP hD hS => ?_)
  have hP : va_P G.1 vwCl (fl [wMo G dh0 dh1 dh2 dh3 dh4 dh5 dh6 dh7 (mo5 d (0 : Int32))]) H := hP
  have hD : va_D A (fl [wMo G dh0 dh1 dh2 dh3 dh4 dh5 dh6 dh7 (mo5 d (0 : Int32))]) := hD
  refine lv_aload_n hx hb dX10_day_5 rfl (lv_at hl 0 rfl) ?_
  refine r_V (own := RX10) (v := (some (.int (f_X10_today (mo5 d (0 : Int32)))))) (st1 := [.int (f_X10_today (mo5 d (0 : Int32)))]) (As := []) (rest := []) (c_X10_today l G dh0 dh1 dh2 dh3 dh4 dh5 dh6 dh7 (mo5 d (0 : Int32))) ⟨hx, hb, hml, hown, hts⟩ g_X10_85 hdv_X10_today hK hST hS hP [0, 1, 2, 3, 4, 5, 6, 7] rfl (k0 := 0) rfl rfl rfl ⟨Nat.le_of_ble_eq_true rfl, Nat.le_of_ble_eq_true rfl⟩ ⟨Nat.le_of_ble_eq_true rfl, Nat.le_of_ble_eq_true rfl⟩ rfl hl.1 rfl (Nat.le_of_ble_eq_true rfl) dX10_day_6 rfl (fun b_1 => ?_)
  exact w_ret (u := ((f_X10_today (mo5 d (0 : Int32))), (mo5 d (0 : Int32)))) hx hb hr hlk rfl hS rfl hF.symm hP hD (Nat.le_of_ble_eq_true rfl) (Nat.le_of_ble_eq_true rfl) dX10_day_9
theorem dX10_hour_0 : decode cX10_hour 0 = .ok (.aload_n 0, 1) := by decide +kernel
theorem dX10_hour_1 : decode cX10_hour 1 = .ok (.iconst 0, 1) := by decide +kernel
theorem dX10_hour_2 : decode cX10_hour 2 = .ok (.putfield 38, 3) := by decide +kernel
theorem dX10_hour_5 : decode cX10_hour 5 = .ok (.aload_n 0, 1) := by decide +kernel
theorem dX10_hour_6 : decode cX10_hour 6 = .ok (.getfield 9, 3) := by decide +kernel
theorem dX10_hour_9 : decode cX10_hour 9 = .ok (.iconst 0, 1) := by decide +kernel
theorem dX10_hour_10 : decode cX10_hour 10 = .ok (.iaload, 1) := by decide +kernel
theorem dX10_hour_11 : decode cX10_hour 11 = .ok (.bipush 24, 2) := by decide +kernel
theorem dX10_hour_13 : decode cX10_hour 13 = .ok (.irem, 1) := by decide +kernel
theorem dX10_hour_14 : decode cX10_hour 14 = .ok (.ireturn, 1) := by decide +kernel
def f_X10_hour (d : MoV) : Int32 × MoV := (((d.1 (0 : Int32).toNatClampNeg) - (d.1 (0 : Int32).toNatClampNeg) / (24 : Int32) * (24 : Int32)), (mo5 d (0 : Int32)))
set_option maxHeartbeats 4000000 in
set_option maxRecDepth 100000 in
theorem c_X10_hour (l : Launch) (G : GG) (dh0 : Nat) (dh1 : Nat) (dh2 : Nat) (dh3 : Nat) (dh4 : Nat) (dh5 : Nat) (dh6 : Nat) (dh7 : Nat) (sz : Nat) (d : MoV) : wMet l yX10_hour cX10_hour 1 (some .int) 1 0 0 G (fl [wMo G dh0 dh1 dh2 dh3 dh4 dh5 dh6 dh7 d]) [.ref dh0] sz (fun u : Int32 × MoV => some (.int u.1)) (fun u : Int32 × MoV => u = f_X10_hour d) (fun u : Int32 × MoV => fl [wMo G dh0 dh1 dh2 dh3 dh4 dh5 dh6 dh7 u.2]) := by
  refine w_start (by decide +kernel) (Nat.le_of_ble_eq_true rfl) ?_
  intro p e s m below meth c A hx hb hr hml hts hown hlk hin hP hD hA hK hST ls hl
  have hS : va_S A s.heap s.heap [] := va_S.rf
  have hown : s.vm.findClass RX10 = some m.cls := hown
  have hl : lv_has ls 1 [(0, .ref dh0)] := hl
  have hF : f_X10_hour d = (((d.1 (0 : Int32).toNatClampNeg) - (d.1 (0 : Int32).toNatClampNeg) / (24 : Int32) * (24 : Int32)), (mo5 d (0 : Int32))) := rfl
  refine lv_aload_n hx hb dX10_hour_0 rfl (lv_at hl 0 rfl) ?_
  refine lv_iconst (v := (0 : Int32)) hx hb dX10_hour_1 (by decide) ?_
  refine va_put (D := G.1) (ci := 12) (v := .int (0 : Int32)) (ty := .int) (C := RX10) (T := TX10) (N := 17) hx hb hts uws_X10 tyX10 tyX10_ok nmX10 hown hK hP hD hS 0 rfl rfl 5 (by decide) (hts _ u_1685) (fun _ h9 => h9) rfl (by decide +kernel) rfl rfl (Nat.le_of_ble_eq_true rfl) dX10_hour_2 (fun H locs hP hD hS => ?_)
  have hP : va_P G.1 vwCl (fl [wMo G dh0 dh1 dh2 dh3 dh4 dh5 dh6 dh7 (mo5 d (0 : Int32))]) H := hP
  have hD : va_D A (fl [wMo G dh0 dh1 dh2 dh3 dh4 dh5 dh6 dh7 (mo5 d (0 : Int32))]) := hD
  refine lv_aload_n hx hb dX10_hour_5 rfl (lv_at hl 0 rfl) ?_
  refine va_get (D := G.1) (ci := 12) (v := .ref dh1) (C := RX10) (T := TX10) (N := 17) hx hb hts uws_X10 hown hK hP 0 rfl rfl 0 (by decide) (hts _ u_1680) (fun _ h9 => h9) rfl dX10_hour_6 ?_
  refine lv_iconst (v := (0 : Int32)) hx hb dX10_hour_9 (by decide) ?_
  refine va_iald hx hb hK hP 1 0 rfl rfl (vp_in_nI (n := 0) (by decide) (by decide)) dX10_hour_10 ?_
  refine lv_bipush (v := (24 : Int32)) hx hb dX10_hour_11 (by decide) ?_
  refine lv_irem hx hb dX10_hour_13 (by decide) ?_
  exact w_ret (u := (((d.1 (0 : Int32).toNatClampNeg) - (d.1 (0 : Int32).toNatClampNeg) / (24 : Int32) * (24 : Int32)), (mo5 d (0 : Int32)))) hx hb hr hlk rfl hS rfl hF.symm hP hD (Nat.le_of_ble_eq_true rfl) (Nat.le_of_ble_eq_true rfl) dX10_hour_14
theorem dX10_phasesOf_0 : decode cX10_phasesOf 0 = .ok (.aload_n 0, 1) := by decide +kernel
theorem dX10_phasesOf_1 : decode cX10_phasesOf 1 = .ok (.aload_n 0, 1) := by decide +kernel
theorem dX10_phasesOf_2 : decode cX10_phasesOf 2 = .ok (.iload_n 1, 1) := by decide +kernel
theorem dX10_phasesOf_3 : decode cX10_phasesOf 3 = .ok (.invokevirtual 75, 3) := by decide +kernel
theorem dX10_phasesOf_6 : decode cX10_phasesOf 6 = .ok (.ifCond .ne 7, 3) := by decide +kernel
theorem dX10_phasesOf_13 : decode cX10_phasesOf 13 = .ok (.iconst 0, 1) := by decide +kernel
theorem dX10_phasesOf_14 : decode cX10_phasesOf 14 = .ok (.iconst 1, 1) := by decide +kernel
theorem dX10_phasesOf_15 : decode cX10_phasesOf 15 = .ok (.invokevirtual 63, 3) := by decide +kernel
theorem dX10_phasesOf_18 : decode cX10_phasesOf 18 = .ok (.ifCond .eq 7, 3) := by decide +kernel
theorem dX10_phasesOf_25 : decode cX10_phasesOf 25 = .ok (.aload_n 0, 1) := by decide +kernel
theorem dX10_phasesOf_26 : decode cX10_phasesOf 26 = .ok (.iload_n 1, 1) := by decide +kernel
theorem dX10_phasesOf_27 : decode cX10_phasesOf 27 = .ok (.iconst 0, 1) := by decide +kernel
theorem dX10_phasesOf_28 : decode cX10_phasesOf 28 = .ok (.invokevirtual 78, 3) := by decide +kernel
theorem dX10_phasesOf_31 : decode cX10_phasesOf 31 = .ok (.ireturn, 1) := by decide +kernel
theorem dX10_phasesOf_9 : decode cX10_phasesOf 9 = .ok (.iconst 1, 1) := by decide +kernel
theorem dX10_phasesOf_10 : decode cX10_phasesOf 10 = .ok (.goto 4, 3) := by decide +kernel
theorem dX10_phasesOf_21 : decode cX10_phasesOf 21 = .ok (.iconst 0, 1) := by decide +kernel
theorem dX10_phasesOf_22 : decode cX10_phasesOf 22 = .ok (.goto 9, 3) := by decide +kernel
def f_X10_phasesOf (d : MoV) (dr : Int32) : Int32 × MoV := (if (f_X10_isDoor d dr) = (0 : Int32) then (let u_9 : MoV := (f_X10_isThrown d (1 : Int32) (1 : Int32)); ((0 : Int32), u_9)) else (let u_4 : MoV := (f_X10_isThrown d (0 : Int32) (1 : Int32)); ((f_X10_of u_4 dr (0 : Int32)), u_4)))
def ok_X10_phasesOf (d : MoV) (dr : Int32) : Prop := (if (f_X10_isDoor d dr) = (0 : Int32) then True else (let u_4 : MoV := (f_X10_isThrown d (0 : Int32) (1 : Int32)); (ok_X10_of u_4 dr (0 : Int32) ∧ True)))
set_option maxHeartbeats 4000000 in
set_option maxRecDepth 100000 in
theorem c_X10_phasesOf (l : Launch) (G : GG) (dh0 : Nat) (dh1 : Nat) (dh2 : Nat) (dh3 : Nat) (dh4 : Nat) (dh5 : Nat) (dh6 : Nat) (dh7 : Nat) (sz : Nat) (d : MoV) (dr : Int32) (hok : ok_X10_phasesOf d dr) : wMet l yX10_phasesOf cX10_phasesOf 2 (some .int) 3 0 0 G (fl [wMo G dh0 dh1 dh2 dh3 dh4 dh5 dh6 dh7 d]) [.ref dh0, .int dr] sz (fun u : Int32 × MoV => some (.int u.1)) (fun u : Int32 × MoV => u = f_X10_phasesOf d dr) (fun u : Int32 × MoV => fl [wMo G dh0 dh1 dh2 dh3 dh4 dh5 dh6 dh7 u.2]) := by
  refine w_start (by decide +kernel) (Nat.le_of_ble_eq_true rfl) ?_
  intro p e s m below meth c A hx hb hr hml hts hown hlk hin hP hD hA hK hST ls hl
  have hS : va_S A s.heap s.heap [] := va_S.rf
  have hown : s.vm.findClass RX10 = some m.cls := hown
  have hl : lv_has ls 2 [(0, .ref dh0), (1, .int dr)] := hl
  have hF : f_X10_phasesOf d dr = (if (f_X10_isDoor d dr) = (0 : Int32) then (let u_9 : MoV := (f_X10_isThrown d (1 : Int32) (1 : Int32)); ((0 : Int32), u_9)) else (let u_4 : MoV := (f_X10_isThrown d (0 : Int32) (1 : Int32)); ((f_X10_of u_4 dr (0 : Int32)), u_4))) := rfl
  have hok : (if (f_X10_isDoor d dr) = (0 : Int32) then True else (let u_4 : MoV := (f_X10_isThrown d (0 : Int32) (1 : Int32)); (ok_X10_of u_4 dr (0 : Int32) ∧ True))) := hok
  refine lv_aload_n hx hb dX10_phasesOf_0 rfl (lv_at hl 0 rfl) ?_
  refine lv_aload_n hx hb dX10_phasesOf_1 rfl (lv_at hl 0 rfl) ?_
  refine lv_iload_n hx hb dX10_phasesOf_2 rfl (lv_at hl 1 rfl) ?_
  refine r_V (own := RX10) (v := (some (.int (f_X10_isDoor d dr)))) (st1 := [.int (f_X10_isDoor d dr), .ref dh0]) (As := [.int dr]) (rest := [.ref dh0]) (c_X10_isDoor l G dh0 dh1 dh2 dh3 dh4 dh5 dh6 dh7 d dr) ⟨hx, hb, hml, hown, hts⟩ g_X10_75 hdv_X10_isDoor hK hST hS hP [0, 1, 2, 3, 4, 5, 6, 7] rfl (k0 := 0) rfl rfl rfl ⟨Nat.le_of_ble_eq_true rfl, Nat.le_of_ble_eq_true rfl⟩ ⟨Nat.le_of_ble_eq_true rfl, Nat.le_of_ble_eq_true rfl⟩ rfl hl.1 rfl (Nat.le_of_ble_eq_true rfl) dX10_phasesOf_3 rfl (fun b_1 => ?_)
  refine lv_if_ne (tgt := 13) hx hb dX10_phasesOf_6 (by decide) (fun c_2 => ?_) (fun c_2 => ?_)
  · have hF := hF.trans (if_neg c_2)
    have hok := Eq.mp (if_neg c_2) hok
    refine lv_iconst (v := (0 : Int32)) hx hb dX10_phasesOf_13 (by decide) ?_
    refine lv_iconst (v := (1 : Int32)) hx hb dX10_phasesOf_14 (by decide) ?_
    refine w_V (own := RX10) (cs := [wMo G dh0 dh1 dh2 dh3 dh4 dh5 dh6 dh7 d]) (rs := []) (As := [.int (0 : Int32), .int (1 : Int32)]) (rest := []) (c_X10_isThrown l G dh0 dh1 dh2 dh3 dh4 dh5 dh6 dh7 s.heap.size d (0 : Int32) (1 : Int32) (rfl)) ⟨hx, hb, hml, hown, hts⟩ g_X10_63 hdv_X10_isThrown hK hST hS hP hD hA [0] [] rfl rfl rfl (k0 := 0) rfl rfl rfl ⟨Nat.le_of_ble_eq_true rfl, Nat.le_of_ble_eq_true rfl⟩ ⟨Nat.le_of_ble_eq_true rfl, Nat.le_of_ble_eq_true rfl⟩ rfl hl.1 rfl (Nat.le_of_ble_eq_true rfl) dX10_phasesOf_15 (fun u_4 H locs huu hP hD hS => ?_)
    have eu_4 := huu
    have hP : va_P G.1 vwCl (fl [wMo G dh0 dh1 dh2 dh3 dh4 dh5 dh6 dh7 u_4]) H := hP
    have hD : va_D A (fl [wMo G dh0 dh1 dh2 dh3 dh4 dh5 dh6 dh7 u_4]) := hD
    refine W.eq (g2 := F0 m 18 ls [.int (0 : Int32)]) rfl ?_
    have hF : f_X10_phasesOf d dr = ((f_X10_of u_4 dr (0 : Int32)), u_4) := by subst eu_4; exact hF
    have hok : (ok_X10_of u_4 dr (0 : Int32) ∧ True) := by subst eu_4; exact hok
    refine lv_if_eq (tgt := 25) hx hb dX10_phasesOf_18 (by decide) (fun c_5 => ?_) (fun c_5 => ?_)
    · refine lv_aload_n hx hb dX10_phasesOf_25 rfl (lv_at hl 0 rfl) ?_
      refine lv_iload_n hx hb dX10_phasesOf_26 rfl (lv_at hl 1 rfl) ?_
      refine lv_iconst (v := (0 : Int32)) hx hb dX10_phasesOf_27 (by decide) ?_
      have k_6 := hok.1
      have hok := hok.2
      refine r_V (own := RX10) (v := (some (.int (f_X10_of u_4 dr (0 : Int32))))) (st1 := [.int (f_X10_of u_4 dr (0 : Int32))]) (As := [.int dr, .int (0 : Int32)]) (rest := []) (c_X10_of l G dh0 dh1 dh2 dh3 dh4 dh5 dh6 dh7 u_4 dr (0 : Int32) k_6) ⟨hx, hb, hml, hown, hts⟩ g_X10_78 hdv_X10_of hK hST hS hP [0, 1, 2, 3, 4, 5, 6, 7] rfl (k0 := 0) rfl rfl rfl ⟨Nat.le_of_ble_eq_true rfl, Nat.le_of_ble_eq_true rfl⟩ ⟨Nat.le_of_ble_eq_true rfl, Nat.le_of_ble_eq_true rfl⟩ rfl hl.1 rfl (Nat.le_of_ble_eq_true rfl) dX10_phasesOf_28 rfl (fun b_7 => ?_)
      exact w_ret (u := ((f_X10_of u_4 dr (0 : Int32)), u_4)) hx hb hr hlk rfl hS rfl hF.symm hP hD (Nat.le_of_ble_eq_true rfl) (Nat.le_of_ble_eq_true rfl) dX10_phasesOf_31
    · exact absurd c_5 (by decide)
  · have hF := hF.trans (if_pos c_2)
    have hok := Eq.mp (if_pos c_2) hok
    refine lv_iconst (v := (1 : Int32)) hx hb dX10_phasesOf_9 (by decide) ?_
    refine lv_goto (tgt := 14) hx hb dX10_phasesOf_10 (by decide) ?_
    refine lv_iconst (v := (1 : Int32)) hx hb dX10_phasesOf_14 (by decide) ?_
    refine w_V (own := RX10) (cs := [wMo G dh0 dh1 dh2 dh3 dh4 dh5 dh6 dh7 d]) (rs := []) (As := [.int (1 : Int32), .int (1 : Int32)]) (rest := []) (c_X10_isThrown l G dh0 dh1 dh2 dh3 dh4 dh5 dh6 dh7 s.heap.size d (1 : Int32) (1 : Int32) (rfl)) ⟨hx, hb, hml, hown, hts⟩ g_X10_63 hdv_X10_isThrown hK hST hS hP hD hA [0] [] rfl rfl rfl (k0 := 0) rfl rfl rfl ⟨Nat.le_of_ble_eq_true rfl, Nat.le_of_ble_eq_true rfl⟩ ⟨Nat.le_of_ble_eq_true rfl, Nat.le_of_ble_eq_true rfl⟩ rfl hl.1 rfl (Nat.le_of_ble_eq_true rfl) dX10_phasesOf_15 (fun u_9 H locs huu hP hD hS => ?_)
    have eu_9 := huu
    have hP : va_P G.1 vwCl (fl [wMo G dh0 dh1 dh2 dh3 dh4 dh5 dh6 dh7 u_9]) H := hP
    have hD : va_D A (fl [wMo G dh0 dh1 dh2 dh3 dh4 dh5 dh6 dh7 u_9]) := hD
    refine W.eq (g2 := F0 m 18 ls [.int (1 : Int32)]) rfl ?_
    have hF : f_X10_phasesOf d dr = ((0 : Int32), u_9) := by subst eu_9; exact hF
    refine lv_if_eq (tgt := 25) hx hb dX10_phasesOf_18 (by decide) (fun c_10 => ?_) (fun c_10 => ?_)
    · exact absurd c_10 (by decide)
    · refine lv_iconst (v := (0 : Int32)) hx hb dX10_phasesOf_21 (by decide) ?_
      refine lv_goto (tgt := 31) hx hb dX10_phasesOf_22 (by decide) ?_
      exact w_ret (u := ((0 : Int32), u_9)) hx hb hr hlk rfl hS rfl hF.symm hP hD (Nat.le_of_ble_eq_true rfl) (Nat.le_of_ble_eq_true rfl) dX10_phasesOf_31
theorem dX10_keyOf_0 : decode cX10_keyOf 0 = .ok (.aload_n 0, 1) := by decide +kernel
theorem dX10_keyOf_1 : decode cX10_keyOf 1 = .ok (.aload_n 0, 1) := by decide +kernel
theorem dX10_keyOf_2 : decode cX10_keyOf 2 = .ok (.iload_n 1, 1) := by decide +kernel
theorem dX10_keyOf_3 : decode cX10_keyOf 3 = .ok (.invokevirtual 75, 3) := by decide +kernel
theorem dX10_keyOf_6 : decode cX10_keyOf 6 = .ok (.ifCond .ne 7, 3) := by decide +kernel
theorem dX10_keyOf_13 : decode cX10_keyOf 13 = .ok (.iconst 0, 1) := by decide +kernel
theorem dX10_keyOf_14 : decode cX10_keyOf 14 = .ok (.iconst 1, 1) := by decide +kernel
theorem dX10_keyOf_15 : decode cX10_keyOf 15 = .ok (.invokevirtual 63, 3) := by decide +kernel
theorem dX10_keyOf_18 : decode cX10_keyOf 18 = .ok (.ifCond .eq 7, 3) := by decide +kernel
theorem dX10_keyOf_25 : decode cX10_keyOf 25 = .ok (.aload_n 0, 1) := by decide +kernel
theorem dX10_keyOf_26 : decode cX10_keyOf 26 = .ok (.iload_n 1, 1) := by decide +kernel
theorem dX10_keyOf_27 : decode cX10_keyOf 27 = .ok (.iconst 3, 1) := by decide +kernel
theorem dX10_keyOf_28 : decode cX10_keyOf 28 = .ok (.invokevirtual 78, 3) := by decide +kernel
theorem dX10_keyOf_31 : decode cX10_keyOf 31 = .ok (.ireturn, 1) := by decide +kernel
theorem dX10_keyOf_9 : decode cX10_keyOf 9 = .ok (.iconst 1, 1) := by decide +kernel
theorem dX10_keyOf_10 : decode cX10_keyOf 10 = .ok (.goto 4, 3) := by decide +kernel
theorem dX10_keyOf_21 : decode cX10_keyOf 21 = .ok (.iconst 0, 1) := by decide +kernel
theorem dX10_keyOf_22 : decode cX10_keyOf 22 = .ok (.goto 9, 3) := by decide +kernel
def f_X10_keyOf (d : MoV) (dr : Int32) : Int32 × MoV := (if (f_X10_isDoor d dr) = (0 : Int32) then (let u_9 : MoV := (f_X10_isThrown d (1 : Int32) (1 : Int32)); ((0 : Int32), u_9)) else (let u_4 : MoV := (f_X10_isThrown d (0 : Int32) (1 : Int32)); ((f_X10_of u_4 dr (3 : Int32)), u_4)))
def ok_X10_keyOf (d : MoV) (dr : Int32) : Prop := (if (f_X10_isDoor d dr) = (0 : Int32) then True else (let u_4 : MoV := (f_X10_isThrown d (0 : Int32) (1 : Int32)); (ok_X10_of u_4 dr (3 : Int32) ∧ True)))
set_option maxHeartbeats 4000000 in
set_option maxRecDepth 100000 in
theorem c_X10_keyOf (l : Launch) (G : GG) (dh0 : Nat) (dh1 : Nat) (dh2 : Nat) (dh3 : Nat) (dh4 : Nat) (dh5 : Nat) (dh6 : Nat) (dh7 : Nat) (sz : Nat) (d : MoV) (dr : Int32) (hok : ok_X10_keyOf d dr) : wMet l yX10_keyOf cX10_keyOf 2 (some .int) 3 0 0 G (fl [wMo G dh0 dh1 dh2 dh3 dh4 dh5 dh6 dh7 d]) [.ref dh0, .int dr] sz (fun u : Int32 × MoV => some (.int u.1)) (fun u : Int32 × MoV => u = f_X10_keyOf d dr) (fun u : Int32 × MoV => fl [wMo G dh0 dh1 dh2 dh3 dh4 dh5 dh6 dh7 u.2]) := by
  refine w_start (by decide +kernel) (Nat.le_of_ble_eq_true rfl) ?_
  intro p e s m below meth c A hx hb hr hml hts hown hlk hin hP hD hA hK hST ls hl
  have hS : va_S A s.heap s.heap [] := va_S.rf
  have hown : s.vm.findClass RX10 = some m.cls := hown
  have hl : lv_has ls 2 [(0, .ref dh0), (1, .int dr)] := hl
  have hF : f_X10_keyOf d dr = (if (f_X10_isDoor d dr) = (0 : Int32) then (let u_9 : MoV := (f_X10_isThrown d (1 : Int32) (1 : Int32)); ((0 : Int32), u_9)) else (let u_4 : MoV := (f_X10_isThrown d (0 : Int32) (1 : Int32)); ((f_X10_of u_4 dr (3 : Int32)), u_4))) := rfl
  have hok : (if (f_X10_isDoor d dr) = (0 : Int32) then True else (let u_4 : MoV := (f_X10_isThrown d (0 : Int32) (1 : Int32)); (ok_X10_of u_4 dr (3 : Int32) ∧ True))) := hok
  refine lv_aload_n hx hb dX10_keyOf_0 rfl (lv_at hl 0 rfl) ?_
  refine lv_aload_n hx hb dX10_keyOf_1 rfl (lv_at hl 0 rfl) ?_
  refine lv_iload_n hx hb dX10_keyOf_2 rfl (lv_at hl 1 rfl) ?_
  refine r_V (own := RX10) (v := (some (.int (f_X10_isDoor d dr)))) (st1 := [.int (f_X10_isDoor d dr), .ref dh0]) (As := [.int dr]) (rest := [.ref dh0]) (c_X10_isDoor l G dh0 dh1 dh2 dh3 dh4 dh5 dh6 dh7 d dr) ⟨hx, hb, hml, hown, hts⟩ g_X10_75 hdv_X10_isDoor hK hST hS hP [0, 1, 2, 3, 4, 5, 6, 7] rfl (k0 := 0) rfl rfl rfl ⟨Nat.le_of_ble_eq_true rfl, Nat.le_of_ble_eq_true rfl⟩ ⟨Nat.le_of_ble_eq_true rfl, Nat.le_of_ble_eq_true rfl⟩ rfl hl.1 rfl (Nat.le_of_ble_eq_true rfl) dX10_keyOf_3 rfl (fun b_1 => ?_)
  refine lv_if_ne (tgt := 13) hx hb dX10_keyOf_6 (by decide) (fun c_2 => ?_) (fun c_2 => ?_)
  · have hF := hF.trans (if_neg c_2)
    have hok := Eq.mp (if_neg c_2) hok
    refine lv_iconst (v := (0 : Int32)) hx hb dX10_keyOf_13 (by decide) ?_
    refine lv_iconst (v := (1 : Int32)) hx hb dX10_keyOf_14 (by decide) ?_
    refine w_V (own := RX10) (cs := [wMo G dh0 dh1 dh2 dh3 dh4 dh5 dh6 dh7 d]) (rs := []) (As := [.int (0 : Int32), .int (1 : Int32)]) (rest := []) (c_X10_isThrown l G dh0 dh1 dh2 dh3 dh4 dh5 dh6 dh7 s.heap.size d (0 : Int32) (1 : Int32) (rfl)) ⟨hx, hb, hml, hown, hts⟩ g_X10_63 hdv_X10_isThrown hK hST hS hP hD hA [0] [] rfl rfl rfl (k0 := 0) rfl rfl rfl ⟨Nat.le_of_ble_eq_true rfl, Nat.le_of_ble_eq_true rfl⟩ ⟨Nat.le_of_ble_eq_true rfl, Nat.le_of_ble_eq_true rfl⟩ rfl hl.1 rfl (Nat.le_of_ble_eq_true rfl) dX10_keyOf_15 (fun u_4 H locs huu hP hD hS => ?_)
    have eu_4 := huu
    have hP : va_P G.1 vwCl (fl [wMo G dh0 dh1 dh2 dh3 dh4 dh5 dh6 dh7 u_4]) H := hP
    have hD : va_D A (fl [wMo G dh0 dh1 dh2 dh3 dh4 dh5 dh6 dh7 u_4]) := hD
    refine W.eq (g2 := F0 m 18 ls [.int (0 : Int32)]) rfl ?_
    have hF : f_X10_keyOf d dr = ((f_X10_of u_4 dr (3 : Int32)), u_4) := by subst eu_4; exact hF
    have hok : (ok_X10_of u_4 dr (3 : Int32) ∧ True) := by subst eu_4; exact hok
    refine lv_if_eq (tgt := 25) hx hb dX10_keyOf_18 (by decide) (fun c_5 => ?_) (fun c_5 => ?_)
    · refine lv_aload_n hx hb dX10_keyOf_25 rfl (lv_at hl 0 rfl) ?_
      refine lv_iload_n hx hb dX10_keyOf_26 rfl (lv_at hl 1 rfl) ?_
      refine lv_iconst (v := (3 : Int32)) hx hb dX10_keyOf_27 (by decide) ?_
      have k_6 := hok.1
      have hok := hok.2
      refine r_V (own := RX10) (v := (some (.int (f_X10_of u_4 dr (3 : Int32))))) (st1 := [.int (f_X10_of u_4 dr (3 : Int32))]) (As := [.int dr, .int (3 : Int32)]) (rest := []) (c_X10_of l G dh0 dh1 dh2 dh3 dh4 dh5 dh6 dh7 u_4 dr (3 : Int32) k_6) ⟨hx, hb, hml, hown, hts⟩ g_X10_78 hdv_X10_of hK hST hS hP [0, 1, 2, 3, 4, 5, 6, 7] rfl (k0 := 0) rfl rfl rfl ⟨Nat.le_of_ble_eq_true rfl, Nat.le_of_ble_eq_true rfl⟩ ⟨Nat.le_of_ble_eq_true rfl, Nat.le_of_ble_eq_true rfl⟩ rfl hl.1 rfl (Nat.le_of_ble_eq_true rfl) dX10_keyOf_28 rfl (fun b_7 => ?_)
      exact w_ret (u := ((f_X10_of u_4 dr (3 : Int32)), u_4)) hx hb hr hlk rfl hS rfl hF.symm hP hD (Nat.le_of_ble_eq_true rfl) (Nat.le_of_ble_eq_true rfl) dX10_keyOf_31
    · exact absurd c_5 (by decide)
  · have hF := hF.trans (if_pos c_2)
    have hok := Eq.mp (if_pos c_2) hok
    refine lv_iconst (v := (1 : Int32)) hx hb dX10_keyOf_9 (by decide) ?_
    refine lv_goto (tgt := 14) hx hb dX10_keyOf_10 (by decide) ?_
    refine lv_iconst (v := (1 : Int32)) hx hb dX10_keyOf_14 (by decide) ?_
    refine w_V (own := RX10) (cs := [wMo G dh0 dh1 dh2 dh3 dh4 dh5 dh6 dh7 d]) (rs := []) (As := [.int (1 : Int32), .int (1 : Int32)]) (rest := []) (c_X10_isThrown l G dh0 dh1 dh2 dh3 dh4 dh5 dh6 dh7 s.heap.size d (1 : Int32) (1 : Int32) (rfl)) ⟨hx, hb, hml, hown, hts⟩ g_X10_63 hdv_X10_isThrown hK hST hS hP hD hA [0] [] rfl rfl rfl (k0 := 0) rfl rfl rfl ⟨Nat.le_of_ble_eq_true rfl, Nat.le_of_ble_eq_true rfl⟩ ⟨Nat.le_of_ble_eq_true rfl, Nat.le_of_ble_eq_true rfl⟩ rfl hl.1 rfl (Nat.le_of_ble_eq_true rfl) dX10_keyOf_15 (fun u_9 H locs huu hP hD hS => ?_)
    have eu_9 := huu
    have hP : va_P G.1 vwCl (fl [wMo G dh0 dh1 dh2 dh3 dh4 dh5 dh6 dh7 u_9]) H := hP
    have hD : va_D A (fl [wMo G dh0 dh1 dh2 dh3 dh4 dh5 dh6 dh7 u_9]) := hD
    refine W.eq (g2 := F0 m 18 ls [.int (1 : Int32)]) rfl ?_
    have hF : f_X10_keyOf d dr = ((0 : Int32), u_9) := by subst eu_9; exact hF
    refine lv_if_eq (tgt := 25) hx hb dX10_keyOf_18 (by decide) (fun c_10 => ?_) (fun c_10 => ?_)
    · exact absurd c_10 (by decide)
    · refine lv_iconst (v := (0 : Int32)) hx hb dX10_keyOf_21 (by decide) ?_
      refine lv_goto (tgt := 31) hx hb dX10_keyOf_22 (by decide) ?_
      exact w_ret (u := ((0 : Int32), u_9)) hx hb hr hlk rfl hS rfl hF.symm hP hD (Nat.le_of_ble_eq_true rfl) (Nat.le_of_ble_eq_true rfl) dX10_keyOf_31
theorem dX10_ownHours_0 : decode cX10_ownHours 0 = .ok (.iconst 0, 1) := by decide +kernel
theorem dX10_ownHours_1 : decode cX10_ownHours 1 = .ok (.istore_n 2, 1) := by decide +kernel
theorem dX10_ownHours_2 : decode cX10_ownHours 2 = .ok (.iconst 0, 1) := by decide +kernel
theorem dX10_ownHours_3 : decode cX10_ownHours 3 = .ok (.istore_n 3, 1) := by decide +kernel
theorem dX10_ownHours_4 : decode cX10_ownHours 4 = .ok (.iload_n 3, 1) := by decide +kernel
theorem dX10_ownHours_5 : decode cX10_ownHours 5 = .ok (.bipush 24, 2) := by decide +kernel
theorem dX10_ownHours_7 : decode cX10_ownHours 7 = .ok (.if_icmp .ge 26, 3) := by decide +kernel
theorem dX10_ownHours_33 : decode cX10_ownHours 33 = .ok (.iload_n 2, 1) := by decide +kernel
theorem dX10_ownHours_34 : decode cX10_ownHours 34 = .ok (.ireturn, 1) := by decide +kernel
theorem dX10_ownHours_10 : decode cX10_ownHours 10 = .ok (.iload_n 2, 1) := by decide +kernel
theorem dX10_ownHours_11 : decode cX10_ownHours 11 = .ok (.aload_n 0, 1) := by decide +kernel
theorem dX10_ownHours_12 : decode cX10_ownHours 12 = .ok (.iload_n 1, 1) := by decide +kernel
theorem dX10_ownHours_13 : decode cX10_ownHours 13 = .ok (.iload_n 3, 1) := by decide +kernel
theorem dX10_ownHours_14 : decode cX10_ownHours 14 = .ok (.invokevirtual 106, 3) := by decide +kernel
theorem dX10_ownHours_17 : decode cX10_ownHours 17 = .ok (.ifCond .eq 7, 3) := by decide +kernel
theorem dX10_ownHours_24 : decode cX10_ownHours 24 = .ok (.iconst 0, 1) := by decide +kernel
theorem dX10_ownHours_25 : decode cX10_ownHours 25 = .ok (.iadd, 1) := by decide +kernel
theorem dX10_ownHours_26 : decode cX10_ownHours 26 = .ok (.istore_n 2, 1) := by decide +kernel
theorem dX10_ownHours_27 : decode cX10_ownHours 27 = .ok (.iinc 3 1, 3) := by decide +kernel
theorem dX10_ownHours_30 : decode cX10_ownHours 30 = .ok (.goto (-26), 3) := by decide +kernel
theorem dX10_ownHours_20 : decode cX10_ownHours 20 = .ok (.iconst 1, 1) := by decide +kernel
theorem dX10_ownHours_21 : decode cX10_ownHours 21 = .ok (.goto 4, 3) := by decide +kernel
def lp_X10_ownHours_4 (d : MoV) (dr : Int32) : Nat → Int32 → Int32 → Int32
  | 0, _, _ => 0
  | n + 1, x3, x2 => (if (24 : Int32) ≤ x3 then x2 else (if (f_X10_isOwnHour d dr x3) = (0 : Int32) then (lp_X10_ownHours_4 d dr n (x3 + 1) (x2 + (0 : Int32))) else (lp_X10_ownHours_4 d dr n (x3 + 1) (x2 + (1 : Int32)))))
def okl_lp_X10_ownHours_4 (d : MoV) (dr : Int32) : Nat → Int32 → Int32 → Prop
  | 0, _, _ => True
  | n + 1, x3, x2 => (if (24 : Int32) ≤ x3 then True else (ok_X10_isOwnHour d dr x3 ∧ (if (f_X10_isOwnHour d dr x3) = (0 : Int32) then (okl_lp_X10_ownHours_4 d dr n (x3 + 1) (x2 + (0 : Int32))) else (okl_lp_X10_ownHours_4 d dr n (x3 + 1) (x2 + (1 : Int32))))))
def f_X10_ownHours (d : MoV) (dr : Int32) : Int32 := (lp_X10_ownHours_4 d dr ((((24 : Int32)).toInt - ((0 : Int32)).toInt).toNat + 1) (0 : Int32) (0 : Int32))
def ok_X10_ownHours (d : MoV) (dr : Int32) : Prop := (okl_lp_X10_ownHours_4 d dr ((((24 : Int32)).toInt - ((0 : Int32)).toInt).toNat + 1) (0 : Int32) (0 : Int32))
set_option maxHeartbeats 4000000 in
set_option maxRecDepth 100000 in
theorem c_X10_ownHours (l : Launch) (G : GG) (dh0 : Nat) (dh1 : Nat) (dh2 : Nat) (dh3 : Nat) (dh4 : Nat) (dh5 : Nat) (dh6 : Nat) (dh7 : Nat) (d : MoV) (dr : Int32) (hok : ok_X10_ownHours d dr) : rMet l yX10_ownHours cX10_ownHours 4 (some .int) 3 G (fl [wMo G dh0 dh1 dh2 dh3 dh4 dh5 dh6 dh7 d]) [.ref dh0, .int dr] (some (.int (f_X10_ownHours d dr))) (True) := by
  refine r_start (by decide +kernel) (Nat.le_of_ble_eq_true rfl) ?_
  intro p e s m below meth c hx hb hr hml hts hown hlk hP hK hST ls hl
  have hS : va_S (fun _ => False) s.heap s.heap [] := va_S.rf
  have hown : s.vm.findClass RX10 = some m.cls := hown
  have hl : lv_has ls 4 [(0, .ref dh0), (1, .int dr)] := hl
  have hF : f_X10_ownHours d dr = (lp_X10_ownHours_4 d dr ((((24 : Int32)).toInt - ((0 : Int32)).toInt).toNat + 1) (0 : Int32) (0 : Int32)) := rfl
  have hok : (okl_lp_X10_ownHours_4 d dr ((((24 : Int32)).toInt - ((0 : Int32)).toInt).toNat + 1) (0 : Int32) (0 : Int32)) := hok
  refine lv_iconst (v := (0 : Int32)) hx hb dX10_ownHours_0 (by decide) ?_
  refine lv_istore_n (lv' := [(2, .int (0 : Int32)), (0, .ref dh0), (1, .int dr)]) hx hb dX10_ownHours_1 rfl hl (by decide) rfl (fun ls hl => ?_)
  refine lv_iconst (v := (0 : Int32)) hx hb dX10_ownHours_2 (by decide) ?_
  refine lv_istore_n (lv' := [(3, .int (0 : Int32)), (2, .int (0 : Int32)), (0, .ref dh0), (1, .int dr)]) hx hb dX10_ownHours_3 rfl hl (by decide) rfl (fun ls hl => ?_)
  have L4 : ∀ (n : Nat) (x3 : Int32) (x2 : Int32) (ls : Array Slot), lv_has ls 4 [(3, .int x3), (2, .int x2), (0, .ref dh0), (1, .int dr)] → (upI x3 (24 : Int32) n) → f_X10_ownHours d dr = lp_X10_ownHours_4 d dr n x3 x2 → okl_lp_X10_ownHours_4 d dr n x3 x2 → W p l e (rmd 3 0 0) s m ([.ref dh0, .int dr] : List Value).toArray below meth c s.heap [] 0 0 (MQ below (rQ (some (.int (f_X10_ownHours d dr))) (True)) ([.ref dh0, .int dr] : List Value).toArray s 0 0 (fun _ => False)) (F0 m 4 ls []) := by
    intro n
    induction n with
    | zero => intro x3 x2 ls hl hu; exact absurd hu (upI_0)
    | succ n ih =>
      intro x3 x2 ls hl hu hF hok
      have hF : f_X10_ownHours d dr = (if (24 : Int32) ≤ x3 then x2 else (if (f_X10_isOwnHour d dr x3) = (0 : Int32) then (lp_X10_ownHours_4 d dr n (x3 + 1) (x2 + (0 : Int32))) else (lp_X10_ownHours_4 d dr n (x3 + 1) (x2 + (1 : Int32))))) := hF
      have hok : (if (24 : Int32) ≤ x3 then True else (ok_X10_isOwnHour d dr x3 ∧ (if (f_X10_isOwnHour d dr x3) = (0 : Int32) then (okl_lp_X10_ownHours_4 d dr n (x3 + 1) (x2 + (0 : Int32))) else (okl_lp_X10_ownHours_4 d dr n (x3 + 1) (x2 + (1 : Int32)))))) := hok
      refine lv_iload_n hx hb dX10_ownHours_4 rfl (lv_at hl 0 rfl) ?_
      refine lv_bipush (v := (24 : Int32)) hx hb dX10_ownHours_5 (by decide) ?_
      refine lv_icmp_ge (tgt := 33) hx hb dX10_ownHours_7 (by decide) (fun c_1 => ?_) (fun c_1 => ?_)
      · have hF := hF.trans (if_pos c_1)
        have hok := Eq.mp (if_pos c_1) hok
        refine lv_iload_n hx hb dX10_ownHours_33 rfl (lv_at hl 1 rfl) ?_
        exact r_ret hx hb hr hlk rfl (by rw [hF]) trivial dX10_ownHours_34
      · have hF := hF.trans (if_neg c_1)
        have hok := Eq.mp (if_neg c_1) hok
        refine lv_iload_n hx hb dX10_ownHours_10 rfl (lv_at hl 1 rfl) ?_
        refine lv_aload_n hx hb dX10_ownHours_11 rfl (lv_at hl 2 rfl) ?_
        refine lv_iload_n hx hb dX10_ownHours_12 rfl (lv_at hl 3 rfl) ?_
        refine lv_iload_n hx hb dX10_ownHours_13 rfl (lv_at hl 0 rfl) ?_
        have k_2 := hok.1
        have hok := hok.2
        refine r_V (own := RX10) (v := (some (.int (f_X10_isOwnHour d dr x3)))) (st1 := [.int (f_X10_isOwnHour d dr x3), .int x2]) (As := [.int dr, .int x3]) (rest := [.int x2]) (c_X10_isOwnHour l G dh0 dh1 dh2 dh3 dh4 dh5 dh6 dh7 d dr x3 k_2) ⟨hx, hb, hml, hown, hts⟩ g_X10_106 hdv_X10_isOwnHour hK hST hS hP [0, 1, 2, 3, 4, 5, 6, 7] rfl (k0 := 0) rfl rfl rfl ⟨Nat.le_of_ble_eq_true rfl, Nat.le_of_ble_eq_true rfl⟩ ⟨Nat.le_of_ble_eq_true rfl, Nat.le_of_ble_eq_true rfl⟩ rfl hl.1 rfl (Nat.le_of_ble_eq_true rfl) dX10_ownHours_14 rfl (fun b_3 => ?_)
        refine lv_if_eq (tgt := 24) hx hb dX10_ownHours_17 (by decide) (fun c_4 => ?_) (fun c_4 => ?_)
        · have hF := hF.trans (if_pos c_4)
          have hok := Eq.mp (if_pos c_4) hok
          refine lv_iconst (v := (0 : Int32)) hx hb dX10_ownHours_24 (by decide) ?_
          refine lv_iadd hx hb dX10_ownHours_25 ?_
          refine lv_istore_n (lv' := [(2, .int (x2 + (0 : Int32))), (3, .int x3), (0, .ref dh0), (1, .int dr)]) hx hb dX10_ownHours_26 rfl hl (by decide) rfl (fun ls hl => ?_)
          refine lv_iinc (v := (x3 + 1)) (lv' := [(3, .int (x3 + 1)), (2, .int (x2 + (0 : Int32))), (0, .ref dh0), (1, .int dr)]) hx hb dX10_ownHours_27 hl (k := 1) rfl rfl (by decide) rfl (fun ls hl => ?_)
          refine lv_goto (tgt := 4) hx hb dX10_ownHours_30 (by decide) ?_
          exact ih (x3 + 1) (x2 + (0 : Int32)) ls (lv_sub hl [0, 1, 2, 3] rfl) (upI_s (Int32.not_le.mp c_1) hu) hF hok
        · have hF := hF.trans (if_neg c_4)
          have hok := Eq.mp (if_neg c_4) hok
          refine lv_iconst (v := (1 : Int32)) hx hb dX10_ownHours_20 (by decide) ?_
          refine lv_goto (tgt := 25) hx hb dX10_ownHours_21 (by decide) ?_
          refine lv_iadd hx hb dX10_ownHours_25 ?_
          refine lv_istore_n (lv' := [(2, .int (x2 + (1 : Int32))), (3, .int x3), (0, .ref dh0), (1, .int dr)]) hx hb dX10_ownHours_26 rfl hl (by decide) rfl (fun ls hl => ?_)
          refine lv_iinc (v := (x3 + 1)) (lv' := [(3, .int (x3 + 1)), (2, .int (x2 + (1 : Int32))), (0, .ref dh0), (1, .int dr)]) hx hb dX10_ownHours_27 hl (k := 1) rfl rfl (by decide) rfl (fun ls hl => ?_)
          refine lv_goto (tgt := 4) hx hb dX10_ownHours_30 (by decide) ?_
          exact ih (x3 + 1) (x2 + (1 : Int32)) ls (lv_sub hl [0, 1, 2, 3] rfl) (upI_s (Int32.not_le.mp c_1) hu) hF hok
  exact L4 ((((24 : Int32)).toInt - ((0 : Int32)).toInt).toNat + 1) (0 : Int32) (0 : Int32) ls (lv_sub hl [0, 1, 2, 3] rfl) (upI_i) hF hok
theorem dX10_hourCount_0 : decode cX10_hourCount 0 = .ok (.aload_n 0, 1) := by decide +kernel
theorem dX10_hourCount_1 : decode cX10_hourCount 1 = .ok (.aload_n 0, 1) := by decide +kernel
theorem dX10_hourCount_2 : decode cX10_hourCount 2 = .ok (.iload_n 1, 1) := by decide +kernel
theorem dX10_hourCount_3 : decode cX10_hourCount 3 = .ok (.invokevirtual 75, 3) := by decide +kernel
theorem dX10_hourCount_6 : decode cX10_hourCount 6 = .ok (.ifCond .ne 7, 3) := by decide +kernel
theorem dX10_hourCount_13 : decode cX10_hourCount 13 = .ok (.iconst 0, 1) := by decide +kernel
theorem dX10_hourCount_14 : decode cX10_hourCount 14 = .ok (.iconst 1, 1) := by decide +kernel
theorem dX10_hourCount_15 : decode cX10_hourCount 15 = .ok (.invokevirtual 63, 3) := by decide +kernel
theorem dX10_hourCount_18 : decode cX10_hourCount 18 = .ok (.ifCond .eq 7, 3) := by decide +kernel
theorem dX10_hourCount_25 : decode cX10_hourCount 25 = .ok (.aload_n 0, 1) := by decide +kernel
theorem dX10_hourCount_26 : decode cX10_hourCount 26 = .ok (.iload_n 1, 1) := by decide +kernel
theorem dX10_hourCount_27 : decode cX10_hourCount 27 = .ok (.invokevirtual 145, 3) := by decide +kernel
theorem u_1915 : Cond.methodLink RX10 145 yX10_ownHours ∈ UW := uw 1915 (by decide +kernel) rfl
theorem u_1917 : Cond.instanceMethod yX10_ownHours ∈ UW := uw 1917 (by decide +kernel) rfl
theorem u_45 : Cond.selects RX10 yX10_ownHours yX10_ownHours ∈ UW := uw 45 (by decide +kernel) rfl
theorem u_1918 : Cond.code yX10_ownHours cX10_ownHours 4 (some .int) ∈ UW := uw 1918 (by decide +kernel) rfl
theorem g_X10_145 : GoodIn UW (wsV RX10 145 RX10 yX10_ownHours (wsU yX10_ownHours cX10_ownHours 4 (some .int))) := gV u_1915 u_1917 u_45 u_77 u_1918
theorem hdv_X10_ownHours : yX10_ownHours.cls = RX10 ∧ yX10_ownHours.cls ≠ "java/lang/invoke/MethodHandle" ∧ yX10_ownHours.cls ≠ "java/lang/invoke/VarHandle" ∧ (parseMethodDescriptor yX10_ownHours.desc).map (fun d => d.parameters.length) = some 1 := by decide +kernel
theorem dX10_hourCount_30 : decode cX10_hourCount 30 = .ok (.ireturn, 1) := by decide +kernel
theorem dX10_hourCount_9 : decode cX10_hourCount 9 = .ok (.iconst 1, 1) := by decide +kernel
theorem dX10_hourCount_10 : decode cX10_hourCount 10 = .ok (.goto 4, 3) := by decide +kernel
theorem dX10_hourCount_21 : decode cX10_hourCount 21 = .ok (.iconst 0, 1) := by decide +kernel
theorem dX10_hourCount_22 : decode cX10_hourCount 22 = .ok (.goto 8, 3) := by decide +kernel
def f_X10_hourCount (d : MoV) (dr : Int32) : Int32 × MoV := (if (f_X10_isDoor d dr) = (0 : Int32) then (let u_9 : MoV := (f_X10_isThrown d (1 : Int32) (1 : Int32)); ((0 : Int32), u_9)) else (let u_4 : MoV := (f_X10_isThrown d (0 : Int32) (1 : Int32)); ((f_X10_ownHours u_4 dr), u_4)))
def ok_X10_hourCount (d : MoV) (dr : Int32) : Prop := (if (f_X10_isDoor d dr) = (0 : Int32) then True else (let u_4 : MoV := (f_X10_isThrown d (0 : Int32) (1 : Int32)); (ok_X10_ownHours u_4 dr ∧ True)))
set_option maxHeartbeats 4000000 in
set_option maxRecDepth 100000 in
theorem c_X10_hourCount (l : Launch) (G : GG) (dh0 : Nat) (dh1 : Nat) (dh2 : Nat) (dh3 : Nat) (dh4 : Nat) (dh5 : Nat) (dh6 : Nat) (dh7 : Nat) (sz : Nat) (d : MoV) (dr : Int32) (hok : ok_X10_hourCount d dr) : wMet l yX10_hourCount cX10_hourCount 2 (some .int) 4 0 0 G (fl [wMo G dh0 dh1 dh2 dh3 dh4 dh5 dh6 dh7 d]) [.ref dh0, .int dr] sz (fun u : Int32 × MoV => some (.int u.1)) (fun u : Int32 × MoV => u = f_X10_hourCount d dr) (fun u : Int32 × MoV => fl [wMo G dh0 dh1 dh2 dh3 dh4 dh5 dh6 dh7 u.2]) := by
  refine w_start (by decide +kernel) (Nat.le_of_ble_eq_true rfl) ?_
  intro p e s m below meth c A hx hb hr hml hts hown hlk hin hP hD hA hK hST ls hl
  have hS : va_S A s.heap s.heap [] := va_S.rf
  have hown : s.vm.findClass RX10 = some m.cls := hown
  have hl : lv_has ls 2 [(0, .ref dh0), (1, .int dr)] := hl
  have hF : f_X10_hourCount d dr = (if (f_X10_isDoor d dr) = (0 : Int32) then (let u_9 : MoV := (f_X10_isThrown d (1 : Int32) (1 : Int32)); ((0 : Int32), u_9)) else (let u_4 : MoV := (f_X10_isThrown d (0 : Int32) (1 : Int32)); ((f_X10_ownHours u_4 dr), u_4))) := rfl
  have hok : (if (f_X10_isDoor d dr) = (0 : Int32) then True else (let u_4 : MoV := (f_X10_isThrown d (0 : Int32) (1 : Int32)); (ok_X10_ownHours u_4 dr ∧ True))) := hok
  refine lv_aload_n hx hb dX10_hourCount_0 rfl (lv_at hl 0 rfl) ?_
  refine lv_aload_n hx hb dX10_hourCount_1 rfl (lv_at hl 0 rfl) ?_
  refine lv_iload_n hx hb dX10_hourCount_2 rfl (lv_at hl 1 rfl) ?_
  refine r_V (own := RX10) (v := (some (.int (f_X10_isDoor d dr)))) (st1 := [.int (f_X10_isDoor d dr), .ref dh0]) (As := [.int dr]) (rest := [.ref dh0]) (c_X10_isDoor l G dh0 dh1 dh2 dh3 dh4 dh5 dh6 dh7 d dr) ⟨hx, hb, hml, hown, hts⟩ g_X10_75 hdv_X10_isDoor hK hST hS hP [0, 1, 2, 3, 4, 5, 6, 7] rfl (k0 := 0) rfl rfl rfl ⟨Nat.le_of_ble_eq_true rfl, Nat.le_of_ble_eq_true rfl⟩ ⟨Nat.le_of_ble_eq_true rfl, Nat.le_of_ble_eq_true rfl⟩ rfl hl.1 rfl (Nat.le_of_ble_eq_true rfl) dX10_hourCount_3 rfl (fun b_1 => ?_)
  refine lv_if_ne (tgt := 13) hx hb dX10_hourCount_6 (by decide) (fun c_2 => ?_) (fun c_2 => ?_)
  · have hF := hF.trans (if_neg c_2)
    have hok := Eq.mp (if_neg c_2) hok
    refine lv_iconst (v := (0 : Int32)) hx hb dX10_hourCount_13 (by decide) ?_
    refine lv_iconst (v := (1 : Int32)) hx hb dX10_hourCount_14 (by decide) ?_
    refine w_V (own := RX10) (cs := [wMo G dh0 dh1 dh2 dh3 dh4 dh5 dh6 dh7 d]) (rs := []) (As := [.int (0 : Int32), .int (1 : Int32)]) (rest := []) (c_X10_isThrown l G dh0 dh1 dh2 dh3 dh4 dh5 dh6 dh7 s.heap.size d (0 : Int32) (1 : Int32) (rfl)) ⟨hx, hb, hml, hown, hts⟩ g_X10_63 hdv_X10_isThrown hK hST hS hP hD hA [0] [] rfl rfl rfl (k0 := 0) rfl rfl rfl ⟨Nat.le_of_ble_eq_true rfl, Nat.le_of_ble_eq_true rfl⟩ ⟨Nat.le_of_ble_eq_true rfl, Nat.le_of_ble_eq_true rfl⟩ rfl hl.1 rfl (Nat.le_of_ble_eq_true rfl) dX10_hourCount_15 (fun u_4 H locs huu hP hD hS => ?_)
    have eu_4 := huu
    have hP : va_P G.1 vwCl (fl [wMo G dh0 dh1 dh2 dh3 dh4 dh5 dh6 dh7 u_4]) H := hP
    have hD : va_D A (fl [wMo G dh0 dh1 dh2 dh3 dh4 dh5 dh6 dh7 u_4]) := hD
    refine W.eq (g2 := F0 m 18 ls [.int (0 : Int32)]) rfl ?_
    have hF : f_X10_hourCount d dr = ((f_X10_ownHours u_4 dr), u_4) := by subst eu_4; exact hF
    have hok : (ok_X10_ownHours u_4 dr ∧ True) := by subst eu_4; exact hok
    refine lv_if_eq (tgt := 25) hx hb dX10_hourCount_18 (by decide) (fun c_5 => ?_) (fun c_5 => ?_)
    · refine lv_aload_n hx hb dX10_hourCount_25 rfl (lv_at hl 0 rfl) ?_
      refine lv_iload_n hx hb dX10_hourCount_26 rfl (lv_at hl 1 rfl) ?_
      have k_6 := hok.1
      have hok := hok.2
      refine r_V (own := RX10) (v := (some (.int (f_X10_ownHours u_4 dr)))) (st1 := [.int (f_X10_ownHours u_4 dr)]) (As := [.int dr]) (rest := []) (c_X10_ownHours l G dh0 dh1 dh2 dh3 dh4 dh5 dh6 dh7 u_4 dr k_6) ⟨hx, hb, hml, hown, hts⟩ g_X10_145 hdv_X10_ownHours hK hST hS hP [0, 1, 2, 3, 4, 5, 6, 7] rfl (k0 := 0) rfl rfl rfl ⟨Nat.le_of_ble_eq_true rfl, Nat.le_of_ble_eq_true rfl⟩ ⟨Nat.le_of_ble_eq_true rfl, Nat.le_of_ble_eq_true rfl⟩ rfl hl.1 rfl (Nat.le_of_ble_eq_true rfl) dX10_hourCount_27 rfl (fun b_7 => ?_)
      exact w_ret (u := ((f_X10_ownHours u_4 dr), u_4)) hx hb hr hlk rfl hS rfl hF.symm hP hD (Nat.le_of_ble_eq_true rfl) (Nat.le_of_ble_eq_true rfl) dX10_hourCount_30
    · exact absurd c_5 (by decide)
  · have hF := hF.trans (if_pos c_2)
    have hok := Eq.mp (if_pos c_2) hok
    refine lv_iconst (v := (1 : Int32)) hx hb dX10_hourCount_9 (by decide) ?_
    refine lv_goto (tgt := 14) hx hb dX10_hourCount_10 (by decide) ?_
    refine lv_iconst (v := (1 : Int32)) hx hb dX10_hourCount_14 (by decide) ?_
    refine w_V (own := RX10) (cs := [wMo G dh0 dh1 dh2 dh3 dh4 dh5 dh6 dh7 d]) (rs := []) (As := [.int (1 : Int32), .int (1 : Int32)]) (rest := []) (c_X10_isThrown l G dh0 dh1 dh2 dh3 dh4 dh5 dh6 dh7 s.heap.size d (1 : Int32) (1 : Int32) (rfl)) ⟨hx, hb, hml, hown, hts⟩ g_X10_63 hdv_X10_isThrown hK hST hS hP hD hA [0] [] rfl rfl rfl (k0 := 0) rfl rfl rfl ⟨Nat.le_of_ble_eq_true rfl, Nat.le_of_ble_eq_true rfl⟩ ⟨Nat.le_of_ble_eq_true rfl, Nat.le_of_ble_eq_true rfl⟩ rfl hl.1 rfl (Nat.le_of_ble_eq_true rfl) dX10_hourCount_15 (fun u_9 H locs huu hP hD hS => ?_)
    have eu_9 := huu
    have hP : va_P G.1 vwCl (fl [wMo G dh0 dh1 dh2 dh3 dh4 dh5 dh6 dh7 u_9]) H := hP
    have hD : va_D A (fl [wMo G dh0 dh1 dh2 dh3 dh4 dh5 dh6 dh7 u_9]) := hD
    refine W.eq (g2 := F0 m 18 ls [.int (1 : Int32)]) rfl ?_
    have hF : f_X10_hourCount d dr = ((0 : Int32), u_9) := by subst eu_9; exact hF
    refine lv_if_eq (tgt := 25) hx hb dX10_hourCount_18 (by decide) (fun c_10 => ?_) (fun c_10 => ?_)
    · exact absurd c_10 (by decide)
    · refine lv_iconst (v := (0 : Int32)) hx hb dX10_hourCount_21 (by decide) ?_
      refine lv_goto (tgt := 30) hx hb dX10_hourCount_22 (by decide) ?_
      exact w_ret (u := ((0 : Int32), u_9)) hx hb hr hlk rfl hS rfl hF.symm hP hD (Nat.le_of_ble_eq_true rfl) (Nat.le_of_ble_eq_true rfl) dX10_hourCount_30
theorem dX10_doorsOfRing_0 : decode cX10_doorsOfRing 0 = .ok (.aload_n 0, 1) := by decide +kernel
theorem dX10_doorsOfRing_1 : decode cX10_doorsOfRing 1 = .ok (.aload_n 0, 1) := by decide +kernel
theorem dX10_doorsOfRing_2 : decode cX10_doorsOfRing 2 = .ok (.iload_n 1, 1) := by decide +kernel
theorem dX10_doorsOfRing_3 : decode cX10_doorsOfRing 3 = .ok (.invokevirtual 112, 3) := by decide +kernel
theorem dX10_doorsOfRing_6 : decode cX10_doorsOfRing 6 = .ok (.ifCond .ne 7, 3) := by decide +kernel
theorem dX10_doorsOfRing_13 : decode cX10_doorsOfRing 13 = .ok (.iconst 0, 1) := by decide +kernel
theorem dX10_doorsOfRing_14 : decode cX10_doorsOfRing 14 = .ok (.iconst 1, 1) := by decide +kernel
theorem dX10_doorsOfRing_15 : decode cX10_doorsOfRing 15 = .ok (.invokevirtual 63, 3) := by decide +kernel
theorem dX10_doorsOfRing_18 : decode cX10_doorsOfRing 18 = .ok (.ifCond .eq 5, 3) := by decide +kernel
theorem dX10_doorsOfRing_23 : decode cX10_doorsOfRing 23 = .ok (.iconst 0, 1) := by decide +kernel
theorem dX10_doorsOfRing_24 : decode cX10_doorsOfRing 24 = .ok (.istore_n 2, 1) := by decide +kernel
theorem dX10_doorsOfRing_25 : decode cX10_doorsOfRing 25 = .ok (.iconst 0, 1) := by decide +kernel
theorem dX10_doorsOfRing_26 : decode cX10_doorsOfRing 26 = .ok (.istore_n 3, 1) := by decide +kernel
theorem dX10_doorsOfRing_27 : decode cX10_doorsOfRing 27 = .ok (.iload_n 3, 1) := by decide +kernel
theorem dX10_doorsOfRing_28 : decode cX10_doorsOfRing 28 = .ok (.aload_n 0, 1) := by decide +kernel
theorem dX10_doorsOfRing_29 : decode cX10_doorsOfRing 29 = .ok (.getfield 9, 3) := by decide +kernel
theorem dX10_doorsOfRing_32 : decode cX10_doorsOfRing 32 = .ok (.iconst 2, 1) := by decide +kernel
theorem dX10_doorsOfRing_33 : decode cX10_doorsOfRing 33 = .ok (.iaload, 1) := by decide +kernel
theorem dX10_doorsOfRing_34 : decode cX10_doorsOfRing 34 = .ok (.if_icmp .ge 31, 3) := by decide +kernel
theorem dX10_doorsOfRing_65 : decode cX10_doorsOfRing 65 = .ok (.iload_n 2, 1) := by decide +kernel
theorem dX10_doorsOfRing_66 : decode cX10_doorsOfRing 66 = .ok (.ireturn, 1) := by decide +kernel
theorem dX10_doorsOfRing_37 : decode cX10_doorsOfRing 37 = .ok (.iload_n 2, 1) := by decide +kernel
theorem dX10_doorsOfRing_38 : decode cX10_doorsOfRing 38 = .ok (.aload_n 0, 1) := by decide +kernel
theorem dX10_doorsOfRing_39 : decode cX10_doorsOfRing 39 = .ok (.iload_n 1, 1) := by decide +kernel
theorem dX10_doorsOfRing_40 : decode cX10_doorsOfRing 40 = .ok (.aload_n 0, 1) := by decide +kernel
theorem dX10_doorsOfRing_41 : decode cX10_doorsOfRing 41 = .ok (.iload_n 3, 1) := by decide +kernel
theorem dX10_doorsOfRing_42 : decode cX10_doorsOfRing 42 = .ok (.iconst 3, 1) := by decide +kernel
theorem dX10_doorsOfRing_43 : decode cX10_doorsOfRing 43 = .ok (.invokevirtual 78, 3) := by decide +kernel
theorem dX10_doorsOfRing_46 : decode cX10_doorsOfRing 46 = .ok (.invokevirtual 115, 3) := by decide +kernel
theorem dX10_doorsOfRing_49 : decode cX10_doorsOfRing 49 = .ok (.ifCond .eq 7, 3) := by decide +kernel
theorem dX10_doorsOfRing_56 : decode cX10_doorsOfRing 56 = .ok (.iconst 0, 1) := by decide +kernel
theorem dX10_doorsOfRing_57 : decode cX10_doorsOfRing 57 = .ok (.iadd, 1) := by decide +kernel
theorem dX10_doorsOfRing_58 : decode cX10_doorsOfRing 58 = .ok (.istore_n 2, 1) := by decide +kernel
theorem dX10_doorsOfRing_59 : decode cX10_doorsOfRing 59 = .ok (.iinc 3 1, 3) := by decide +kernel
theorem dX10_doorsOfRing_62 : decode cX10_doorsOfRing 62 = .ok (.goto (-35), 3) := by decide +kernel
theorem dX10_doorsOfRing_52 : decode cX10_doorsOfRing 52 = .ok (.iconst 1, 1) := by decide +kernel
theorem dX10_doorsOfRing_53 : decode cX10_doorsOfRing 53 = .ok (.goto 4, 3) := by decide +kernel
theorem dX10_doorsOfRing_9 : decode cX10_doorsOfRing 9 = .ok (.iconst 1, 1) := by decide +kernel
theorem dX10_doorsOfRing_10 : decode cX10_doorsOfRing 10 = .ok (.goto 4, 3) := by decide +kernel
theorem dX10_doorsOfRing_21 : decode cX10_doorsOfRing 21 = .ok (.iconst 0, 1) := by decide +kernel
theorem dX10_doorsOfRing_22 : decode cX10_doorsOfRing 22 = .ok (.ireturn, 1) := by decide +kernel
def lp_X10_doorsOfRing_27 (d : MoV) (dr : Int32) (u_4 : MoV) : Nat → Int32 → Int32 → Int32 × MoV
  | 0, _, _ => (0, d)
  | n + 1, x3, x2 => (if (u_4.1 (2 : Int32).toNatClampNeg) ≤ x3 then (x2, u_4) else (if (f_X10_has u_4 dr (f_X10_of u_4 x3 (3 : Int32))) = (0 : Int32) then (lp_X10_doorsOfRing_27 d dr u_4 n (x3 + 1) (x2 + (0 : Int32))) else (lp_X10_doorsOfRing_27 d dr u_4 n (x3 + 1) (x2 + (1 : Int32)))))
def okl_lp_X10_doorsOfRing_27 (d : MoV) (dr : Int32) (u_4 : MoV) : Nat → Int32 → Int32 → Prop
  | 0, _, _ => True
  | n + 1, x3, x2 => (if (u_4.1 (2 : Int32).toNatClampNeg) ≤ x3 then True else (ok_X10_of u_4 x3 (3 : Int32) ∧ (ok_X10_has u_4 dr (f_X10_of u_4 x3 (3 : Int32)) ∧ (if (f_X10_has u_4 dr (f_X10_of u_4 x3 (3 : Int32))) = (0 : Int32) then (okl_lp_X10_doorsOfRing_27 d dr u_4 n (x3 + 1) (x2 + (0 : Int32))) else (okl_lp_X10_doorsOfRing_27 d dr u_4 n (x3 + 1) (x2 + (1 : Int32)))))))
def f_X10_doorsOfRing (d : MoV) (dr : Int32) : Int32 × MoV := (if (f_X10_isPerson d dr) = (0 : Int32) then (let u_13 : MoV := (f_X10_isThrown d (1 : Int32) (1 : Int32)); ((0 : Int32), u_13)) else (let u_4 : MoV := (f_X10_isThrown d (0 : Int32) (1 : Int32)); (lp_X10_doorsOfRing_27 d dr u_4 ((((u_4.1 (2 : Int32).toNatClampNeg)).toInt - ((0 : Int32)).toInt).toNat + 1) (0 : Int32) (0 : Int32))))
def ok_X10_doorsOfRing (d : MoV) (dr : Int32) : Prop := (if (f_X10_isPerson d dr) = (0 : Int32) then True else (let u_4 : MoV := (f_X10_isThrown d (0 : Int32) (1 : Int32)); (okl_lp_X10_doorsOfRing_27 d dr u_4 ((((u_4.1 (2 : Int32).toNatClampNeg)).toInt - ((0 : Int32)).toInt).toNat + 1) (0 : Int32) (0 : Int32))))
set_option maxHeartbeats 4000000 in
set_option maxRecDepth 100000 in
theorem c_X10_doorsOfRing (l : Launch) (G : GG) (dh0 : Nat) (dh1 : Nat) (dh2 : Nat) (dh3 : Nat) (dh4 : Nat) (dh5 : Nat) (dh6 : Nat) (dh7 : Nat) (sz : Nat) (d : MoV) (dr : Int32) (hok : ok_X10_doorsOfRing d dr) : wMet l yX10_doorsOfRing cX10_doorsOfRing 4 (some .int) 4 0 0 G (fl [wMo G dh0 dh1 dh2 dh3 dh4 dh5 dh6 dh7 d]) [.ref dh0, .int dr] sz (fun u : Int32 × MoV => some (.int u.1)) (fun u : Int32 × MoV => u = f_X10_doorsOfRing d dr) (fun u : Int32 × MoV => fl [wMo G dh0 dh1 dh2 dh3 dh4 dh5 dh6 dh7 u.2]) := by
  refine w_start (by decide +kernel) (Nat.le_of_ble_eq_true rfl) ?_
  intro p e s m below meth c A hx hb hr hml hts hown hlk hin hP hD hA hK hST ls hl
  have hS : va_S A s.heap s.heap [] := va_S.rf
  have hown : s.vm.findClass RX10 = some m.cls := hown
  have hl : lv_has ls 4 [(0, .ref dh0), (1, .int dr)] := hl
  have hF : f_X10_doorsOfRing d dr = (if (f_X10_isPerson d dr) = (0 : Int32) then (let u_13 : MoV := (f_X10_isThrown d (1 : Int32) (1 : Int32)); ((0 : Int32), u_13)) else (let u_4 : MoV := (f_X10_isThrown d (0 : Int32) (1 : Int32)); (lp_X10_doorsOfRing_27 d dr u_4 ((((u_4.1 (2 : Int32).toNatClampNeg)).toInt - ((0 : Int32)).toInt).toNat + 1) (0 : Int32) (0 : Int32)))) := rfl
  have hok : (if (f_X10_isPerson d dr) = (0 : Int32) then True else (let u_4 : MoV := (f_X10_isThrown d (0 : Int32) (1 : Int32)); (okl_lp_X10_doorsOfRing_27 d dr u_4 ((((u_4.1 (2 : Int32).toNatClampNeg)).toInt - ((0 : Int32)).toInt).toNat + 1) (0 : Int32) (0 : Int32)))) := hok
  refine lv_aload_n hx hb dX10_doorsOfRing_0 rfl (lv_at hl 0 rfl) ?_
  refine lv_aload_n hx hb dX10_doorsOfRing_1 rfl (lv_at hl 0 rfl) ?_
  refine lv_iload_n hx hb dX10_doorsOfRing_2 rfl (lv_at hl 1 rfl) ?_
  refine r_V (own := RX10) (v := (some (.int (f_X10_isPerson d dr)))) (st1 := [.int (f_X10_isPerson d dr), .ref dh0]) (As := [.int dr]) (rest := [.ref dh0]) (c_X10_isPerson l G dh0 dh1 dh2 dh3 dh4 dh5 dh6 dh7 d dr) ⟨hx, hb, hml, hown, hts⟩ g_X10_112 hdv_X10_isPerson hK hST hS hP [0, 1, 2, 3, 4, 5, 6, 7] rfl (k0 := 0) rfl rfl rfl ⟨Nat.le_of_ble_eq_true rfl, Nat.le_of_ble_eq_true rfl⟩ ⟨Nat.le_of_ble_eq_true rfl, Nat.le_of_ble_eq_true rfl⟩ rfl hl.1 rfl (Nat.le_of_ble_eq_true rfl) dX10_doorsOfRing_3 rfl (fun b_1 => ?_)
  refine lv_if_ne (tgt := 13) hx hb dX10_doorsOfRing_6 (by decide) (fun c_2 => ?_) (fun c_2 => ?_)
  · have hF := hF.trans (if_neg c_2)
    have hok := Eq.mp (if_neg c_2) hok
    refine lv_iconst (v := (0 : Int32)) hx hb dX10_doorsOfRing_13 (by decide) ?_
    refine lv_iconst (v := (1 : Int32)) hx hb dX10_doorsOfRing_14 (by decide) ?_
    refine w_V (own := RX10) (cs := [wMo G dh0 dh1 dh2 dh3 dh4 dh5 dh6 dh7 d]) (rs := []) (As := [.int (0 : Int32), .int (1 : Int32)]) (rest := []) (c_X10_isThrown l G dh0 dh1 dh2 dh3 dh4 dh5 dh6 dh7 s.heap.size d (0 : Int32) (1 : Int32) (rfl)) ⟨hx, hb, hml, hown, hts⟩ g_X10_63 hdv_X10_isThrown hK hST hS hP hD hA [0] [] rfl rfl rfl (k0 := 0) rfl rfl rfl ⟨Nat.le_of_ble_eq_true rfl, Nat.le_of_ble_eq_true rfl⟩ ⟨Nat.le_of_ble_eq_true rfl, Nat.le_of_ble_eq_true rfl⟩ rfl hl.1 rfl (Nat.le_of_ble_eq_true rfl) dX10_doorsOfRing_15 (fun u_4 H locs huu hP hD hS => ?_)
    have eu_4 := huu
    have hP : va_P G.1 vwCl (fl [wMo G dh0 dh1 dh2 dh3 dh4 dh5 dh6 dh7 u_4]) H := hP
    have hD : va_D A (fl [wMo G dh0 dh1 dh2 dh3 dh4 dh5 dh6 dh7 u_4]) := hD
    refine W.eq (g2 := F0 m 18 ls [.int (0 : Int32)]) rfl ?_
    have hF : f_X10_doorsOfRing d dr = (lp_X10_doorsOfRing_27 d dr u_4 ((((u_4.1 (2 : Int32).toNatClampNeg)).toInt - ((0 : Int32)).toInt).toNat + 1) (0 : Int32) (0 : Int32)) := by subst eu_4; exact hF
    have hok : (okl_lp_X10_doorsOfRing_27 d dr u_4 ((((u_4.1 (2 : Int32).toNatClampNeg)).toInt - ((0 : Int32)).toInt).toNat + 1) (0 : Int32) (0 : Int32)) := by subst eu_4; exact hok
    refine lv_if_eq (tgt := 23) hx hb dX10_doorsOfRing_18 (by decide) (fun c_5 => ?_) (fun c_5 => ?_)
    · refine lv_iconst (v := (0 : Int32)) hx hb dX10_doorsOfRing_23 (by decide) ?_
      refine lv_istore_n (lv' := [(2, .int (0 : Int32)), (0, .ref dh0), (1, .int dr)]) hx hb dX10_doorsOfRing_24 rfl hl (by decide) rfl (fun ls hl => ?_)
      refine lv_iconst (v := (0 : Int32)) hx hb dX10_doorsOfRing_25 (by decide) ?_
      refine lv_istore_n (lv' := [(3, .int (0 : Int32)), (2, .int (0 : Int32)), (0, .ref dh0), (1, .int dr)]) hx hb dX10_doorsOfRing_26 rfl hl (by decide) rfl (fun ls hl => ?_)
      have L27 : ∀ (n : Nat) (x3 : Int32) (x2 : Int32) (ls : Array Slot), lv_has ls 4 [(3, .int x3), (2, .int x2), (0, .ref dh0), (1, .int dr)] → (upI x3 (u_4.1 (2 : Int32).toNatClampNeg) n) → f_X10_doorsOfRing d dr = lp_X10_doorsOfRing_27 d dr u_4 n x3 x2 → okl_lp_X10_doorsOfRing_27 d dr u_4 n x3 x2 → W p l e (rmd 4 0 0) s m ([.ref dh0, .int dr] : List Value).toArray below meth c H locs 0 0 (MQ below (wQ (fun u : Int32 × MoV => some (.int u.1)) (fun u : Int32 × MoV => u = f_X10_doorsOfRing d dr) (fun u : Int32 × MoV => fl [wMo G dh0 dh1 dh2 dh3 dh4 dh5 dh6 dh7 u.2]) G.1 A) ([.ref dh0, .int dr] : List Value).toArray s 0 0 A) (F0 m 27 ls []) := by
        intro n
        induction n with
        | zero => intro x3 x2 ls hl hu; exact absurd hu (upI_0)
        | succ n ih =>
          intro x3 x2 ls hl hu hF hok
          have hF : f_X10_doorsOfRing d dr = (if (u_4.1 (2 : Int32).toNatClampNeg) ≤ x3 then (x2, u_4) else (if (f_X10_has u_4 dr (f_X10_of u_4 x3 (3 : Int32))) = (0 : Int32) then (lp_X10_doorsOfRing_27 d dr u_4 n (x3 + 1) (x2 + (0 : Int32))) else (lp_X10_doorsOfRing_27 d dr u_4 n (x3 + 1) (x2 + (1 : Int32))))) := hF
          have hok : (if (u_4.1 (2 : Int32).toNatClampNeg) ≤ x3 then True else (ok_X10_of u_4 x3 (3 : Int32) ∧ (ok_X10_has u_4 dr (f_X10_of u_4 x3 (3 : Int32)) ∧ (if (f_X10_has u_4 dr (f_X10_of u_4 x3 (3 : Int32))) = (0 : Int32) then (okl_lp_X10_doorsOfRing_27 d dr u_4 n (x3 + 1) (x2 + (0 : Int32))) else (okl_lp_X10_doorsOfRing_27 d dr u_4 n (x3 + 1) (x2 + (1 : Int32))))))) := hok
          refine lv_iload_n hx hb dX10_doorsOfRing_27 rfl (lv_at hl 0 rfl) ?_
          refine lv_aload_n hx hb dX10_doorsOfRing_28 rfl (lv_at hl 2 rfl) ?_
          refine va_get (D := G.1) (ci := 12) (v := .ref dh1) (C := RX10) (T := TX10) (N := 17) hx hb hts uws_X10 hown hK hP 0 rfl rfl 0 (by decide) (hts _ u_1680) (fun _ h9 => h9) rfl dX10_doorsOfRing_29 ?_
          refine lv_iconst (v := (2 : Int32)) hx hb dX10_doorsOfRing_32 (by decide) ?_
          refine va_iald hx hb hK hP 1 0 rfl rfl (vp_in_nI (n := 2) (by decide) (by decide)) dX10_doorsOfRing_33 ?_
          refine lv_icmp_ge (tgt := 65) hx hb dX10_doorsOfRing_34 (by decide) (fun c_6 => ?_) (fun c_6 => ?_)
          · have hF := hF.trans (if_pos c_6)
            have hok := Eq.mp (if_pos c_6) hok
            refine lv_iload_n hx hb dX10_doorsOfRing_65 rfl (lv_at hl 1 rfl) ?_
            exact w_ret (u := (x2, u_4)) hx hb hr hlk rfl hS rfl hF.symm hP hD (Nat.le_of_ble_eq_true rfl) (Nat.le_of_ble_eq_true rfl) dX10_doorsOfRing_66
          · have hF := hF.trans (if_neg c_6)
            have hok := Eq.mp (if_neg c_6) hok
            refine lv_iload_n hx hb dX10_doorsOfRing_37 rfl (lv_at hl 1 rfl) ?_
            refine lv_aload_n hx hb dX10_doorsOfRing_38 rfl (lv_at hl 2 rfl) ?_
            refine lv_iload_n hx hb dX10_doorsOfRing_39 rfl (lv_at hl 3 rfl) ?_
            refine lv_aload_n hx hb dX10_doorsOfRing_40 rfl (lv_at hl 2 rfl) ?_
            refine lv_iload_n hx hb dX10_doorsOfRing_41 rfl (lv_at hl 0 rfl) ?_
            refine lv_iconst (v := (3 : Int32)) hx hb dX10_doorsOfRing_42 (by decide) ?_
            have k_7 := hok.1
            have hok := hok.2
            refine r_V (own := RX10) (v := (some (.int (f_X10_of u_4 x3 (3 : Int32))))) (st1 := [.int (f_X10_of u_4 x3 (3 : Int32)), .int dr, .ref dh0, .int x2]) (As := [.int x3, .int (3 : Int32)]) (rest := [.int dr, .ref dh0, .int x2]) (c_X10_of l G dh0 dh1 dh2 dh3 dh4 dh5 dh6 dh7 u_4 x3 (3 : Int32) k_7) ⟨hx, hb, hml, hown, hts⟩ g_X10_78 hdv_X10_of hK hST hS hP [0, 1, 2, 3, 4, 5, 6, 7] rfl (k0 := 0) rfl rfl rfl ⟨Nat.le_of_ble_eq_true rfl, Nat.le_of_ble_eq_true rfl⟩ ⟨Nat.le_of_ble_eq_true rfl, Nat.le_of_ble_eq_true rfl⟩ rfl hl.1 rfl (Nat.le_of_ble_eq_true rfl) dX10_doorsOfRing_43 rfl (fun b_8 => ?_)
            have k_9 := hok.1
            have hok := hok.2
            refine r_V (own := RX10) (v := (some (.int (f_X10_has u_4 dr (f_X10_of u_4 x3 (3 : Int32)))))) (st1 := [.int (f_X10_has u_4 dr (f_X10_of u_4 x3 (3 : Int32))), .int x2]) (As := [.int dr, .int (f_X10_of u_4 x3 (3 : Int32))]) (rest := [.int x2]) (c_X10_has l G dh0 dh1 dh2 dh3 dh4 dh5 dh6 dh7 u_4 dr (f_X10_of u_4 x3 (3 : Int32)) k_9) ⟨hx, hb, hml, hown, hts⟩ g_X10_115 hdv_X10_has hK hST hS hP [0, 1, 2, 3, 4, 5, 6, 7] rfl (k0 := 0) rfl rfl rfl ⟨Nat.le_of_ble_eq_true rfl, Nat.le_of_ble_eq_true rfl⟩ ⟨Nat.le_of_ble_eq_true rfl, Nat.le_of_ble_eq_true rfl⟩ rfl hl.1 rfl (Nat.le_of_ble_eq_true rfl) dX10_doorsOfRing_46 rfl (fun b_10 => ?_)
            refine lv_if_eq (tgt := 56) hx hb dX10_doorsOfRing_49 (by decide) (fun c_11 => ?_) (fun c_11 => ?_)
            · have hF := hF.trans (if_pos c_11)
              have hok := Eq.mp (if_pos c_11) hok
              refine lv_iconst (v := (0 : Int32)) hx hb dX10_doorsOfRing_56 (by decide) ?_
              refine lv_iadd hx hb dX10_doorsOfRing_57 ?_
              refine lv_istore_n (lv' := [(2, .int (x2 + (0 : Int32))), (3, .int x3), (0, .ref dh0), (1, .int dr)]) hx hb dX10_doorsOfRing_58 rfl hl (by decide) rfl (fun ls hl => ?_)
              refine lv_iinc (v := (x3 + 1)) (lv' := [(3, .int (x3 + 1)), (2, .int (x2 + (0 : Int32))), (0, .ref dh0), (1, .int dr)]) hx hb dX10_doorsOfRing_59 hl (k := 1) rfl rfl (by decide) rfl (fun ls hl => ?_)
              refine lv_goto (tgt := 27) hx hb dX10_doorsOfRing_62 (by decide) ?_
              exact ih (x3 + 1) (x2 + (0 : Int32)) ls (lv_sub hl [0, 1, 2, 3] rfl) (upI_s (Int32.not_le.mp c_6) hu) hF hok
            · have hF := hF.trans (if_neg c_11)
              have hok := Eq.mp (if_neg c_11) hok
              refine lv_iconst (v := (1 : Int32)) hx hb dX10_doorsOfRing_52 (by decide) ?_
              refine lv_goto (tgt := 57) hx hb dX10_doorsOfRing_53 (by decide) ?_
              refine lv_iadd hx hb dX10_doorsOfRing_57 ?_
              refine lv_istore_n (lv' := [(2, .int (x2 + (1 : Int32))), (3, .int x3), (0, .ref dh0), (1, .int dr)]) hx hb dX10_doorsOfRing_58 rfl hl (by decide) rfl (fun ls hl => ?_)
              refine lv_iinc (v := (x3 + 1)) (lv' := [(3, .int (x3 + 1)), (2, .int (x2 + (1 : Int32))), (0, .ref dh0), (1, .int dr)]) hx hb dX10_doorsOfRing_59 hl (k := 1) rfl rfl (by decide) rfl (fun ls hl => ?_)
              refine lv_goto (tgt := 27) hx hb dX10_doorsOfRing_62 (by decide) ?_
              exact ih (x3 + 1) (x2 + (1 : Int32)) ls (lv_sub hl [0, 1, 2, 3] rfl) (upI_s (Int32.not_le.mp c_6) hu) hF hok
      exact L27 ((((u_4.1 (2 : Int32).toNatClampNeg)).toInt - ((0 : Int32)).toInt).toNat + 1) (0 : Int32) (0 : Int32) ls (lv_sub hl [0, 1, 2, 3] rfl) (upI_i) hF hok
    · exact absurd c_5 (by decide)
  · have hF := hF.trans (if_pos c_2)
    have hok := Eq.mp (if_pos c_2) hok
    refine lv_iconst (v := (1 : Int32)) hx hb dX10_doorsOfRing_9 (by decide) ?_
    refine lv_goto (tgt := 14) hx hb dX10_doorsOfRing_10 (by decide) ?_
    refine lv_iconst (v := (1 : Int32)) hx hb dX10_doorsOfRing_14 (by decide) ?_
    refine w_V (own := RX10) (cs := [wMo G dh0 dh1 dh2 dh3 dh4 dh5 dh6 dh7 d]) (rs := []) (As := [.int (1 : Int32), .int (1 : Int32)]) (rest := []) (c_X10_isThrown l G dh0 dh1 dh2 dh3 dh4 dh5 dh6 dh7 s.heap.size d (1 : Int32) (1 : Int32) (rfl)) ⟨hx, hb, hml, hown, hts⟩ g_X10_63 hdv_X10_isThrown hK hST hS hP hD hA [0] [] rfl rfl rfl (k0 := 0) rfl rfl rfl ⟨Nat.le_of_ble_eq_true rfl, Nat.le_of_ble_eq_true rfl⟩ ⟨Nat.le_of_ble_eq_true rfl, Nat.le_of_ble_eq_true rfl⟩ rfl hl.1 rfl (Nat.le_of_ble_eq_true rfl) dX10_doorsOfRing_15 (fun u_13 H locs huu hP hD hS => ?_)
    have eu_13 := huu
    have hP : va_P G.1 vwCl (fl [wMo G dh0 dh1 dh2 dh3 dh4 dh5 dh6 dh7 u_13]) H := hP
    have hD : va_D A (fl [wMo G dh0 dh1 dh2 dh3 dh4 dh5 dh6 dh7 u_13]) := hD
    refine W.eq (g2 := F0 m 18 ls [.int (1 : Int32)]) rfl ?_
    have hF : f_X10_doorsOfRing d dr = ((0 : Int32), u_13) := by subst eu_13; exact hF
    refine lv_if_eq (tgt := 23) hx hb dX10_doorsOfRing_18 (by decide) (fun c_14 => ?_) (fun c_14 => ?_)
    · exact absurd c_14 (by decide)
    · refine lv_iconst (v := (0 : Int32)) hx hb dX10_doorsOfRing_21 (by decide) ?_
      exact w_ret (u := ((0 : Int32), u_13)) hx hb hr hlk rfl hS rfl hF.symm hP hD (Nat.le_of_ble_eq_true rfl) (Nat.le_of_ble_eq_true rfl) dX10_doorsOfRing_22
theorem dX10_entriesOf_0 : decode cX10_entriesOf 0 = .ok (.aload_n 0, 1) := by decide +kernel
theorem dX10_entriesOf_1 : decode cX10_entriesOf 1 = .ok (.aload_n 0, 1) := by decide +kernel
theorem dX10_entriesOf_2 : decode cX10_entriesOf 2 = .ok (.iload_n 1, 1) := by decide +kernel
theorem dX10_entriesOf_3 : decode cX10_entriesOf 3 = .ok (.invokevirtual 112, 3) := by decide +kernel
theorem dX10_entriesOf_6 : decode cX10_entriesOf 6 = .ok (.ifCond .ne 7, 3) := by decide +kernel
theorem dX10_entriesOf_13 : decode cX10_entriesOf 13 = .ok (.iconst 0, 1) := by decide +kernel
theorem dX10_entriesOf_14 : decode cX10_entriesOf 14 = .ok (.iconst 1, 1) := by decide +kernel
theorem dX10_entriesOf_15 : decode cX10_entriesOf 15 = .ok (.invokevirtual 63, 3) := by decide +kernel
theorem dX10_entriesOf_18 : decode cX10_entriesOf 18 = .ok (.ifCond .eq 7, 3) := by decide +kernel
theorem dX10_entriesOf_25 : decode cX10_entriesOf 25 = .ok (.aload_n 0, 1) := by decide +kernel
theorem dX10_entriesOf_26 : decode cX10_entriesOf 26 = .ok (.iload_n 1, 1) := by decide +kernel
theorem dX10_entriesOf_27 : decode cX10_entriesOf 27 = .ok (.iconst 1, 1) := by decide +kernel
theorem dX10_entriesOf_28 : decode cX10_entriesOf 28 = .ok (.invokevirtual 109, 3) := by decide +kernel
theorem dX10_entriesOf_31 : decode cX10_entriesOf 31 = .ok (.ireturn, 1) := by decide +kernel
theorem dX10_entriesOf_9 : decode cX10_entriesOf 9 = .ok (.iconst 1, 1) := by decide +kernel
theorem dX10_entriesOf_10 : decode cX10_entriesOf 10 = .ok (.goto 4, 3) := by decide +kernel
theorem dX10_entriesOf_21 : decode cX10_entriesOf 21 = .ok (.iconst 0, 1) := by decide +kernel
theorem dX10_entriesOf_22 : decode cX10_entriesOf 22 = .ok (.goto 9, 3) := by decide +kernel
def f_X10_entriesOf (d : MoV) (dr : Int32) : Int32 × MoV := (if (f_X10_isPerson d dr) = (0 : Int32) then (let u_9 : MoV := (f_X10_isThrown d (1 : Int32) (1 : Int32)); ((0 : Int32), u_9)) else (let u_4 : MoV := (f_X10_isThrown d (0 : Int32) (1 : Int32)); ((f_X10_ofPerson u_4 dr (1 : Int32)), u_4)))
def ok_X10_entriesOf (d : MoV) (dr : Int32) : Prop := (if (f_X10_isPerson d dr) = (0 : Int32) then True else (let u_4 : MoV := (f_X10_isThrown d (0 : Int32) (1 : Int32)); (ok_X10_ofPerson u_4 dr (1 : Int32) ∧ True)))
set_option maxHeartbeats 4000000 in
set_option maxRecDepth 100000 in
theorem c_X10_entriesOf (l : Launch) (G : GG) (dh0 : Nat) (dh1 : Nat) (dh2 : Nat) (dh3 : Nat) (dh4 : Nat) (dh5 : Nat) (dh6 : Nat) (dh7 : Nat) (sz : Nat) (d : MoV) (dr : Int32) (hok : ok_X10_entriesOf d dr) : wMet l yX10_entriesOf cX10_entriesOf 2 (some .int) 3 0 0 G (fl [wMo G dh0 dh1 dh2 dh3 dh4 dh5 dh6 dh7 d]) [.ref dh0, .int dr] sz (fun u : Int32 × MoV => some (.int u.1)) (fun u : Int32 × MoV => u = f_X10_entriesOf d dr) (fun u : Int32 × MoV => fl [wMo G dh0 dh1 dh2 dh3 dh4 dh5 dh6 dh7 u.2]) := by
  refine w_start (by decide +kernel) (Nat.le_of_ble_eq_true rfl) ?_
  intro p e s m below meth c A hx hb hr hml hts hown hlk hin hP hD hA hK hST ls hl
  have hS : va_S A s.heap s.heap [] := va_S.rf
  have hown : s.vm.findClass RX10 = some m.cls := hown
  have hl : lv_has ls 2 [(0, .ref dh0), (1, .int dr)] := hl
  have hF : f_X10_entriesOf d dr = (if (f_X10_isPerson d dr) = (0 : Int32) then (let u_9 : MoV := (f_X10_isThrown d (1 : Int32) (1 : Int32)); ((0 : Int32), u_9)) else (let u_4 : MoV := (f_X10_isThrown d (0 : Int32) (1 : Int32)); ((f_X10_ofPerson u_4 dr (1 : Int32)), u_4))) := rfl
  have hok : (if (f_X10_isPerson d dr) = (0 : Int32) then True else (let u_4 : MoV := (f_X10_isThrown d (0 : Int32) (1 : Int32)); (ok_X10_ofPerson u_4 dr (1 : Int32) ∧ True))) := hok
  refine lv_aload_n hx hb dX10_entriesOf_0 rfl (lv_at hl 0 rfl) ?_
  refine lv_aload_n hx hb dX10_entriesOf_1 rfl (lv_at hl 0 rfl) ?_
  refine lv_iload_n hx hb dX10_entriesOf_2 rfl (lv_at hl 1 rfl) ?_
  refine r_V (own := RX10) (v := (some (.int (f_X10_isPerson d dr)))) (st1 := [.int (f_X10_isPerson d dr), .ref dh0]) (As := [.int dr]) (rest := [.ref dh0]) (c_X10_isPerson l G dh0 dh1 dh2 dh3 dh4 dh5 dh6 dh7 d dr) ⟨hx, hb, hml, hown, hts⟩ g_X10_112 hdv_X10_isPerson hK hST hS hP [0, 1, 2, 3, 4, 5, 6, 7] rfl (k0 := 0) rfl rfl rfl ⟨Nat.le_of_ble_eq_true rfl, Nat.le_of_ble_eq_true rfl⟩ ⟨Nat.le_of_ble_eq_true rfl, Nat.le_of_ble_eq_true rfl⟩ rfl hl.1 rfl (Nat.le_of_ble_eq_true rfl) dX10_entriesOf_3 rfl (fun b_1 => ?_)
  refine lv_if_ne (tgt := 13) hx hb dX10_entriesOf_6 (by decide) (fun c_2 => ?_) (fun c_2 => ?_)
  · have hF := hF.trans (if_neg c_2)
    have hok := Eq.mp (if_neg c_2) hok
    refine lv_iconst (v := (0 : Int32)) hx hb dX10_entriesOf_13 (by decide) ?_
    refine lv_iconst (v := (1 : Int32)) hx hb dX10_entriesOf_14 (by decide) ?_
    refine w_V (own := RX10) (cs := [wMo G dh0 dh1 dh2 dh3 dh4 dh5 dh6 dh7 d]) (rs := []) (As := [.int (0 : Int32), .int (1 : Int32)]) (rest := []) (c_X10_isThrown l G dh0 dh1 dh2 dh3 dh4 dh5 dh6 dh7 s.heap.size d (0 : Int32) (1 : Int32) (rfl)) ⟨hx, hb, hml, hown, hts⟩ g_X10_63 hdv_X10_isThrown hK hST hS hP hD hA [0] [] rfl rfl rfl (k0 := 0) rfl rfl rfl ⟨Nat.le_of_ble_eq_true rfl, Nat.le_of_ble_eq_true rfl⟩ ⟨Nat.le_of_ble_eq_true rfl, Nat.le_of_ble_eq_true rfl⟩ rfl hl.1 rfl (Nat.le_of_ble_eq_true rfl) dX10_entriesOf_15 (fun u_4 H locs huu hP hD hS => ?_)
    have eu_4 := huu
    have hP : va_P G.1 vwCl (fl [wMo G dh0 dh1 dh2 dh3 dh4 dh5 dh6 dh7 u_4]) H := hP
    have hD : va_D A (fl [wMo G dh0 dh1 dh2 dh3 dh4 dh5 dh6 dh7 u_4]) := hD
    refine W.eq (g2 := F0 m 18 ls [.int (0 : Int32)]) rfl ?_
    have hF : f_X10_entriesOf d dr = ((f_X10_ofPerson u_4 dr (1 : Int32)), u_4) := by subst eu_4; exact hF
    have hok : (ok_X10_ofPerson u_4 dr (1 : Int32) ∧ True) := by subst eu_4; exact hok
    refine lv_if_eq (tgt := 25) hx hb dX10_entriesOf_18 (by decide) (fun c_5 => ?_) (fun c_5 => ?_)
    · refine lv_aload_n hx hb dX10_entriesOf_25 rfl (lv_at hl 0 rfl) ?_
      refine lv_iload_n hx hb dX10_entriesOf_26 rfl (lv_at hl 1 rfl) ?_
      refine lv_iconst (v := (1 : Int32)) hx hb dX10_entriesOf_27 (by decide) ?_
      have k_6 := hok.1
      have hok := hok.2
      refine r_V (own := RX10) (v := (some (.int (f_X10_ofPerson u_4 dr (1 : Int32))))) (st1 := [.int (f_X10_ofPerson u_4 dr (1 : Int32))]) (As := [.int dr, .int (1 : Int32)]) (rest := []) (c_X10_ofPerson l G dh0 dh1 dh2 dh3 dh4 dh5 dh6 dh7 u_4 dr (1 : Int32) k_6) ⟨hx, hb, hml, hown, hts⟩ g_X10_109 hdv_X10_ofPerson hK hST hS hP [0, 1, 2, 3, 4, 5, 6, 7] rfl (k0 := 0) rfl rfl rfl ⟨Nat.le_of_ble_eq_true rfl, Nat.le_of_ble_eq_true rfl⟩ ⟨Nat.le_of_ble_eq_true rfl, Nat.le_of_ble_eq_true rfl⟩ rfl hl.1 rfl (Nat.le_of_ble_eq_true rfl) dX10_entriesOf_28 rfl (fun b_7 => ?_)
      exact w_ret (u := ((f_X10_ofPerson u_4 dr (1 : Int32)), u_4)) hx hb hr hlk rfl hS rfl hF.symm hP hD (Nat.le_of_ble_eq_true rfl) (Nat.le_of_ble_eq_true rfl) dX10_entriesOf_31
    · exact absurd c_5 (by decide)
  · have hF := hF.trans (if_pos c_2)
    have hok := Eq.mp (if_pos c_2) hok
    refine lv_iconst (v := (1 : Int32)) hx hb dX10_entriesOf_9 (by decide) ?_
    refine lv_goto (tgt := 14) hx hb dX10_entriesOf_10 (by decide) ?_
    refine lv_iconst (v := (1 : Int32)) hx hb dX10_entriesOf_14 (by decide) ?_
    refine w_V (own := RX10) (cs := [wMo G dh0 dh1 dh2 dh3 dh4 dh5 dh6 dh7 d]) (rs := []) (As := [.int (1 : Int32), .int (1 : Int32)]) (rest := []) (c_X10_isThrown l G dh0 dh1 dh2 dh3 dh4 dh5 dh6 dh7 s.heap.size d (1 : Int32) (1 : Int32) (rfl)) ⟨hx, hb, hml, hown, hts⟩ g_X10_63 hdv_X10_isThrown hK hST hS hP hD hA [0] [] rfl rfl rfl (k0 := 0) rfl rfl rfl ⟨Nat.le_of_ble_eq_true rfl, Nat.le_of_ble_eq_true rfl⟩ ⟨Nat.le_of_ble_eq_true rfl, Nat.le_of_ble_eq_true rfl⟩ rfl hl.1 rfl (Nat.le_of_ble_eq_true rfl) dX10_entriesOf_15 (fun u_9 H locs huu hP hD hS => ?_)
    have eu_9 := huu
    have hP : va_P G.1 vwCl (fl [wMo G dh0 dh1 dh2 dh3 dh4 dh5 dh6 dh7 u_9]) H := hP
    have hD : va_D A (fl [wMo G dh0 dh1 dh2 dh3 dh4 dh5 dh6 dh7 u_9]) := hD
    refine W.eq (g2 := F0 m 18 ls [.int (1 : Int32)]) rfl ?_
    have hF : f_X10_entriesOf d dr = ((0 : Int32), u_9) := by subst eu_9; exact hF
    refine lv_if_eq (tgt := 25) hx hb dX10_entriesOf_18 (by decide) (fun c_10 => ?_) (fun c_10 => ?_)
    · exact absurd c_10 (by decide)
    · refine lv_iconst (v := (0 : Int32)) hx hb dX10_entriesOf_21 (by decide) ?_
      refine lv_goto (tgt := 31) hx hb dX10_entriesOf_22 (by decide) ?_
      exact w_ret (u := ((0 : Int32), u_9)) hx hb hr hlk rfl hS rfl hF.symm hP hD (Nat.le_of_ble_eq_true rfl) (Nat.le_of_ble_eq_true rfl) dX10_entriesOf_31
theorem dX10_openDoorsFor_0 : decode cX10_openDoorsFor 0 = .ok (.aload_n 0, 1) := by decide +kernel
theorem dX10_openDoorsFor_1 : decode cX10_openDoorsFor 1 = .ok (.aload_n 0, 1) := by decide +kernel
theorem dX10_openDoorsFor_2 : decode cX10_openDoorsFor 2 = .ok (.iload_n 1, 1) := by decide +kernel
theorem dX10_openDoorsFor_3 : decode cX10_openDoorsFor 3 = .ok (.invokevirtual 112, 3) := by decide +kernel
theorem dX10_openDoorsFor_6 : decode cX10_openDoorsFor 6 = .ok (.ifCond .ne 7, 3) := by decide +kernel
theorem dX10_openDoorsFor_13 : decode cX10_openDoorsFor 13 = .ok (.iconst 0, 1) := by decide +kernel
theorem dX10_openDoorsFor_14 : decode cX10_openDoorsFor 14 = .ok (.iconst 1, 1) := by decide +kernel
theorem dX10_openDoorsFor_15 : decode cX10_openDoorsFor 15 = .ok (.invokevirtual 63, 3) := by decide +kernel
theorem dX10_openDoorsFor_18 : decode cX10_openDoorsFor 18 = .ok (.ifCond .eq 5, 3) := by decide +kernel
theorem dX10_openDoorsFor_23 : decode cX10_openDoorsFor 23 = .ok (.iconst 0, 1) := by decide +kernel
theorem dX10_openDoorsFor_24 : decode cX10_openDoorsFor 24 = .ok (.istore_n 2, 1) := by decide +kernel
theorem dX10_openDoorsFor_25 : decode cX10_openDoorsFor 25 = .ok (.iconst 0, 1) := by decide +kernel
theorem dX10_openDoorsFor_26 : decode cX10_openDoorsFor 26 = .ok (.istore_n 3, 1) := by decide +kernel
theorem dX10_openDoorsFor_27 : decode cX10_openDoorsFor 27 = .ok (.iload_n 3, 1) := by decide +kernel
theorem dX10_openDoorsFor_28 : decode cX10_openDoorsFor 28 = .ok (.aload_n 0, 1) := by decide +kernel
theorem dX10_openDoorsFor_29 : decode cX10_openDoorsFor 29 = .ok (.getfield 9, 3) := by decide +kernel
theorem dX10_openDoorsFor_32 : decode cX10_openDoorsFor 32 = .ok (.iconst 2, 1) := by decide +kernel
theorem dX10_openDoorsFor_33 : decode cX10_openDoorsFor 33 = .ok (.iaload, 1) := by decide +kernel
theorem dX10_openDoorsFor_34 : decode cX10_openDoorsFor 34 = .ok (.if_icmp .ge 26, 3) := by decide +kernel
theorem dX10_openDoorsFor_60 : decode cX10_openDoorsFor 60 = .ok (.iload_n 2, 1) := by decide +kernel
theorem dX10_openDoorsFor_61 : decode cX10_openDoorsFor 61 = .ok (.ireturn, 1) := by decide +kernel
theorem dX10_openDoorsFor_37 : decode cX10_openDoorsFor 37 = .ok (.iload_n 2, 1) := by decide +kernel
theorem dX10_openDoorsFor_38 : decode cX10_openDoorsFor 38 = .ok (.aload_n 0, 1) := by decide +kernel
theorem dX10_openDoorsFor_39 : decode cX10_openDoorsFor 39 = .ok (.iload_n 1, 1) := by decide +kernel
theorem dX10_openDoorsFor_40 : decode cX10_openDoorsFor 40 = .ok (.iload_n 3, 1) := by decide +kernel
theorem dX10_openDoorsFor_41 : decode cX10_openDoorsFor 41 = .ok (.invokevirtual 127, 3) := by decide +kernel
theorem dX10_openDoorsFor_44 : decode cX10_openDoorsFor 44 = .ok (.ifCond .ne 7, 3) := by decide +kernel
theorem dX10_openDoorsFor_51 : decode cX10_openDoorsFor 51 = .ok (.iconst 0, 1) := by decide +kernel
theorem dX10_openDoorsFor_52 : decode cX10_openDoorsFor 52 = .ok (.iadd, 1) := by decide +kernel
theorem dX10_openDoorsFor_53 : decode cX10_openDoorsFor 53 = .ok (.istore_n 2, 1) := by decide +kernel
theorem dX10_openDoorsFor_54 : decode cX10_openDoorsFor 54 = .ok (.iinc 3 1, 3) := by decide +kernel
theorem dX10_openDoorsFor_57 : decode cX10_openDoorsFor 57 = .ok (.goto (-30), 3) := by decide +kernel
theorem dX10_openDoorsFor_47 : decode cX10_openDoorsFor 47 = .ok (.iconst 1, 1) := by decide +kernel
theorem dX10_openDoorsFor_48 : decode cX10_openDoorsFor 48 = .ok (.goto 4, 3) := by decide +kernel
theorem dX10_openDoorsFor_9 : decode cX10_openDoorsFor 9 = .ok (.iconst 1, 1) := by decide +kernel
theorem dX10_openDoorsFor_10 : decode cX10_openDoorsFor 10 = .ok (.goto 4, 3) := by decide +kernel
theorem dX10_openDoorsFor_21 : decode cX10_openDoorsFor 21 = .ok (.iconst 0, 1) := by decide +kernel
theorem dX10_openDoorsFor_22 : decode cX10_openDoorsFor 22 = .ok (.ireturn, 1) := by decide +kernel
def lp_X10_openDoorsFor_27 (d : MoV) (dr : Int32) (u_4 : MoV) : Nat → Int32 → Int32 → Int32 × MoV
  | 0, _, _ => (0, d)
  | n + 1, x3, x2 => (if (u_4.1 (2 : Int32).toNatClampNeg) ≤ x3 then (x2, u_4) else (if (f_X10_result u_4 dr x3) = (0 : Int32) then (lp_X10_openDoorsFor_27 d dr u_4 n (x3 + 1) (x2 + (1 : Int32))) else (lp_X10_openDoorsFor_27 d dr u_4 n (x3 + 1) (x2 + (0 : Int32)))))
def okl_lp_X10_openDoorsFor_27 (d : MoV) (dr : Int32) (u_4 : MoV) : Nat → Int32 → Int32 → Prop
  | 0, _, _ => True
  | n + 1, x3, x2 => (if (u_4.1 (2 : Int32).toNatClampNeg) ≤ x3 then True else (ok_X10_result u_4 dr x3 ∧ (if (f_X10_result u_4 dr x3) = (0 : Int32) then (okl_lp_X10_openDoorsFor_27 d dr u_4 n (x3 + 1) (x2 + (1 : Int32))) else (okl_lp_X10_openDoorsFor_27 d dr u_4 n (x3 + 1) (x2 + (0 : Int32))))))
def f_X10_openDoorsFor (d : MoV) (dr : Int32) : Int32 × MoV := (if (f_X10_isPerson d dr) = (0 : Int32) then (let u_11 : MoV := (f_X10_isThrown d (1 : Int32) (1 : Int32)); ((0 : Int32), u_11)) else (let u_4 : MoV := (f_X10_isThrown d (0 : Int32) (1 : Int32)); (lp_X10_openDoorsFor_27 d dr u_4 ((((u_4.1 (2 : Int32).toNatClampNeg)).toInt - ((0 : Int32)).toInt).toNat + 1) (0 : Int32) (0 : Int32))))
def ok_X10_openDoorsFor (d : MoV) (dr : Int32) : Prop := (if (f_X10_isPerson d dr) = (0 : Int32) then True else (let u_4 : MoV := (f_X10_isThrown d (0 : Int32) (1 : Int32)); (okl_lp_X10_openDoorsFor_27 d dr u_4 ((((u_4.1 (2 : Int32).toNatClampNeg)).toInt - ((0 : Int32)).toInt).toNat + 1) (0 : Int32) (0 : Int32))))
set_option maxHeartbeats 4000000 in
set_option maxRecDepth 100000 in
theorem c_X10_openDoorsFor (l : Launch) (G : GG) (dh0 : Nat) (dh1 : Nat) (dh2 : Nat) (dh3 : Nat) (dh4 : Nat) (dh5 : Nat) (dh6 : Nat) (dh7 : Nat) (sz : Nat) (d : MoV) (dr : Int32) (hok : ok_X10_openDoorsFor d dr) : wMet l yX10_openDoorsFor cX10_openDoorsFor 4 (some .int) 5 0 0 G (fl [wMo G dh0 dh1 dh2 dh3 dh4 dh5 dh6 dh7 d]) [.ref dh0, .int dr] sz (fun u : Int32 × MoV => some (.int u.1)) (fun u : Int32 × MoV => u = f_X10_openDoorsFor d dr) (fun u : Int32 × MoV => fl [wMo G dh0 dh1 dh2 dh3 dh4 dh5 dh6 dh7 u.2]) := by
  refine w_start (by decide +kernel) (Nat.le_of_ble_eq_true rfl) ?_
  intro p e s m below meth c A hx hb hr hml hts hown hlk hin hP hD hA hK hST ls hl
  have hS : va_S A s.heap s.heap [] := va_S.rf
  have hown : s.vm.findClass RX10 = some m.cls := hown
  have hl : lv_has ls 4 [(0, .ref dh0), (1, .int dr)] := hl
  have hF : f_X10_openDoorsFor d dr = (if (f_X10_isPerson d dr) = (0 : Int32) then (let u_11 : MoV := (f_X10_isThrown d (1 : Int32) (1 : Int32)); ((0 : Int32), u_11)) else (let u_4 : MoV := (f_X10_isThrown d (0 : Int32) (1 : Int32)); (lp_X10_openDoorsFor_27 d dr u_4 ((((u_4.1 (2 : Int32).toNatClampNeg)).toInt - ((0 : Int32)).toInt).toNat + 1) (0 : Int32) (0 : Int32)))) := rfl
  have hok : (if (f_X10_isPerson d dr) = (0 : Int32) then True else (let u_4 : MoV := (f_X10_isThrown d (0 : Int32) (1 : Int32)); (okl_lp_X10_openDoorsFor_27 d dr u_4 ((((u_4.1 (2 : Int32).toNatClampNeg)).toInt - ((0 : Int32)).toInt).toNat + 1) (0 : Int32) (0 : Int32)))) := hok
  refine lv_aload_n hx hb dX10_openDoorsFor_0 rfl (lv_at hl 0 rfl) ?_
  refine lv_aload_n hx hb dX10_openDoorsFor_1 rfl (lv_at hl 0 rfl) ?_
  refine lv_iload_n hx hb dX10_openDoorsFor_2 rfl (lv_at hl 1 rfl) ?_
  refine r_V (own := RX10) (v := (some (.int (f_X10_isPerson d dr)))) (st1 := [.int (f_X10_isPerson d dr), .ref dh0]) (As := [.int dr]) (rest := [.ref dh0]) (c_X10_isPerson l G dh0 dh1 dh2 dh3 dh4 dh5 dh6 dh7 d dr) ⟨hx, hb, hml, hown, hts⟩ g_X10_112 hdv_X10_isPerson hK hST hS hP [0, 1, 2, 3, 4, 5, 6, 7] rfl (k0 := 0) rfl rfl rfl ⟨Nat.le_of_ble_eq_true rfl, Nat.le_of_ble_eq_true rfl⟩ ⟨Nat.le_of_ble_eq_true rfl, Nat.le_of_ble_eq_true rfl⟩ rfl hl.1 rfl (Nat.le_of_ble_eq_true rfl) dX10_openDoorsFor_3 rfl (fun b_1 => ?_)
  refine lv_if_ne (tgt := 13) hx hb dX10_openDoorsFor_6 (by decide) (fun c_2 => ?_) (fun c_2 => ?_)
  · have hF := hF.trans (if_neg c_2)
    have hok := Eq.mp (if_neg c_2) hok
    refine lv_iconst (v := (0 : Int32)) hx hb dX10_openDoorsFor_13 (by decide) ?_
    refine lv_iconst (v := (1 : Int32)) hx hb dX10_openDoorsFor_14 (by decide) ?_
    refine w_V (own := RX10) (cs := [wMo G dh0 dh1 dh2 dh3 dh4 dh5 dh6 dh7 d]) (rs := []) (As := [.int (0 : Int32), .int (1 : Int32)]) (rest := []) (c_X10_isThrown l G dh0 dh1 dh2 dh3 dh4 dh5 dh6 dh7 s.heap.size d (0 : Int32) (1 : Int32) (rfl)) ⟨hx, hb, hml, hown, hts⟩ g_X10_63 hdv_X10_isThrown hK hST hS hP hD hA [0] [] rfl rfl rfl (k0 := 0) rfl rfl rfl ⟨Nat.le_of_ble_eq_true rfl, Nat.le_of_ble_eq_true rfl⟩ ⟨Nat.le_of_ble_eq_true rfl, Nat.le_of_ble_eq_true rfl⟩ rfl hl.1 rfl (Nat.le_of_ble_eq_true rfl) dX10_openDoorsFor_15 (fun u_4 H locs huu hP hD hS => ?_)
    have eu_4 := huu
    have hP : va_P G.1 vwCl (fl [wMo G dh0 dh1 dh2 dh3 dh4 dh5 dh6 dh7 u_4]) H := hP
    have hD : va_D A (fl [wMo G dh0 dh1 dh2 dh3 dh4 dh5 dh6 dh7 u_4]) := hD
    refine W.eq (g2 := F0 m 18 ls [.int (0 : Int32)]) rfl ?_
    have hF : f_X10_openDoorsFor d dr = (lp_X10_openDoorsFor_27 d dr u_4 ((((u_4.1 (2 : Int32).toNatClampNeg)).toInt - ((0 : Int32)).toInt).toNat + 1) (0 : Int32) (0 : Int32)) := by subst eu_4; exact hF
    have hok : (okl_lp_X10_openDoorsFor_27 d dr u_4 ((((u_4.1 (2 : Int32).toNatClampNeg)).toInt - ((0 : Int32)).toInt).toNat + 1) (0 : Int32) (0 : Int32)) := by subst eu_4; exact hok
    refine lv_if_eq (tgt := 23) hx hb dX10_openDoorsFor_18 (by decide) (fun c_5 => ?_) (fun c_5 => ?_)
    · refine lv_iconst (v := (0 : Int32)) hx hb dX10_openDoorsFor_23 (by decide) ?_
      refine lv_istore_n (lv' := [(2, .int (0 : Int32)), (0, .ref dh0), (1, .int dr)]) hx hb dX10_openDoorsFor_24 rfl hl (by decide) rfl (fun ls hl => ?_)
      refine lv_iconst (v := (0 : Int32)) hx hb dX10_openDoorsFor_25 (by decide) ?_
      refine lv_istore_n (lv' := [(3, .int (0 : Int32)), (2, .int (0 : Int32)), (0, .ref dh0), (1, .int dr)]) hx hb dX10_openDoorsFor_26 rfl hl (by decide) rfl (fun ls hl => ?_)
      have L27 : ∀ (n : Nat) (x3 : Int32) (x2 : Int32) (ls : Array Slot), lv_has ls 4 [(3, .int x3), (2, .int x2), (0, .ref dh0), (1, .int dr)] → (upI x3 (u_4.1 (2 : Int32).toNatClampNeg) n) → f_X10_openDoorsFor d dr = lp_X10_openDoorsFor_27 d dr u_4 n x3 x2 → okl_lp_X10_openDoorsFor_27 d dr u_4 n x3 x2 → W p l e (rmd 5 0 0) s m ([.ref dh0, .int dr] : List Value).toArray below meth c H locs 0 0 (MQ below (wQ (fun u : Int32 × MoV => some (.int u.1)) (fun u : Int32 × MoV => u = f_X10_openDoorsFor d dr) (fun u : Int32 × MoV => fl [wMo G dh0 dh1 dh2 dh3 dh4 dh5 dh6 dh7 u.2]) G.1 A) ([.ref dh0, .int dr] : List Value).toArray s 0 0 A) (F0 m 27 ls []) := by
        intro n
        induction n with
        | zero => intro x3 x2 ls hl hu; exact absurd hu (upI_0)
        | succ n ih =>
          intro x3 x2 ls hl hu hF hok
          have hF : f_X10_openDoorsFor d dr = (if (u_4.1 (2 : Int32).toNatClampNeg) ≤ x3 then (x2, u_4) else (if (f_X10_result u_4 dr x3) = (0 : Int32) then (lp_X10_openDoorsFor_27 d dr u_4 n (x3 + 1) (x2 + (1 : Int32))) else (lp_X10_openDoorsFor_27 d dr u_4 n (x3 + 1) (x2 + (0 : Int32))))) := hF
          have hok : (if (u_4.1 (2 : Int32).toNatClampNeg) ≤ x3 then True else (ok_X10_result u_4 dr x3 ∧ (if (f_X10_result u_4 dr x3) = (0 : Int32) then (okl_lp_X10_openDoorsFor_27 d dr u_4 n (x3 + 1) (x2 + (1 : Int32))) else (okl_lp_X10_openDoorsFor_27 d dr u_4 n (x3 + 1) (x2 + (0 : Int32)))))) := hok
          refine lv_iload_n hx hb dX10_openDoorsFor_27 rfl (lv_at hl 0 rfl) ?_
          refine lv_aload_n hx hb dX10_openDoorsFor_28 rfl (lv_at hl 2 rfl) ?_
          refine va_get (D := G.1) (ci := 12) (v := .ref dh1) (C := RX10) (T := TX10) (N := 17) hx hb hts uws_X10 hown hK hP 0 rfl rfl 0 (by decide) (hts _ u_1680) (fun _ h9 => h9) rfl dX10_openDoorsFor_29 ?_
          refine lv_iconst (v := (2 : Int32)) hx hb dX10_openDoorsFor_32 (by decide) ?_
          refine va_iald hx hb hK hP 1 0 rfl rfl (vp_in_nI (n := 2) (by decide) (by decide)) dX10_openDoorsFor_33 ?_
          refine lv_icmp_ge (tgt := 60) hx hb dX10_openDoorsFor_34 (by decide) (fun c_6 => ?_) (fun c_6 => ?_)
          · have hF := hF.trans (if_pos c_6)
            have hok := Eq.mp (if_pos c_6) hok
            refine lv_iload_n hx hb dX10_openDoorsFor_60 rfl (lv_at hl 1 rfl) ?_
            exact w_ret (u := (x2, u_4)) hx hb hr hlk rfl hS rfl hF.symm hP hD (Nat.le_of_ble_eq_true rfl) (Nat.le_of_ble_eq_true rfl) dX10_openDoorsFor_61
          · have hF := hF.trans (if_neg c_6)
            have hok := Eq.mp (if_neg c_6) hok
            refine lv_iload_n hx hb dX10_openDoorsFor_37 rfl (lv_at hl 1 rfl) ?_
            refine lv_aload_n hx hb dX10_openDoorsFor_38 rfl (lv_at hl 2 rfl) ?_
            refine lv_iload_n hx hb dX10_openDoorsFor_39 rfl (lv_at hl 3 rfl) ?_
            refine lv_iload_n hx hb dX10_openDoorsFor_40 rfl (lv_at hl 0 rfl) ?_
            have k_7 := hok.1
            have hok := hok.2
            refine r_V (own := RX10) (v := (some (.int (f_X10_result u_4 dr x3)))) (st1 := [.int (f_X10_result u_4 dr x3), .int x2]) (As := [.int dr, .int x3]) (rest := [.int x2]) (c_X10_result l G dh0 dh1 dh2 dh3 dh4 dh5 dh6 dh7 u_4 dr x3 k_7) ⟨hx, hb, hml, hown, hts⟩ g_X10_127 hdv_X10_result hK hST hS hP [0, 1, 2, 3, 4, 5, 6, 7] rfl (k0 := 0) rfl rfl rfl ⟨Nat.le_of_ble_eq_true rfl, Nat.le_of_ble_eq_true rfl⟩ ⟨Nat.le_of_ble_eq_true rfl, Nat.le_of_ble_eq_true rfl⟩ rfl hl.1 rfl (Nat.le_of_ble_eq_true rfl) dX10_openDoorsFor_41 rfl (fun b_8 => ?_)
            refine lv_if_ne (tgt := 51) hx hb dX10_openDoorsFor_44 (by decide) (fun c_9 => ?_) (fun c_9 => ?_)
            · have hF := hF.trans (if_neg c_9)
              have hok := Eq.mp (if_neg c_9) hok
              refine lv_iconst (v := (0 : Int32)) hx hb dX10_openDoorsFor_51 (by decide) ?_
              refine lv_iadd hx hb dX10_openDoorsFor_52 ?_
              refine lv_istore_n (lv' := [(2, .int (x2 + (0 : Int32))), (3, .int x3), (0, .ref dh0), (1, .int dr)]) hx hb dX10_openDoorsFor_53 rfl hl (by decide) rfl (fun ls hl => ?_)
              refine lv_iinc (v := (x3 + 1)) (lv' := [(3, .int (x3 + 1)), (2, .int (x2 + (0 : Int32))), (0, .ref dh0), (1, .int dr)]) hx hb dX10_openDoorsFor_54 hl (k := 1) rfl rfl (by decide) rfl (fun ls hl => ?_)
              refine lv_goto (tgt := 27) hx hb dX10_openDoorsFor_57 (by decide) ?_
              exact ih (x3 + 1) (x2 + (0 : Int32)) ls (lv_sub hl [0, 1, 2, 3] rfl) (upI_s (Int32.not_le.mp c_6) hu) hF hok
            · have hF := hF.trans (if_pos c_9)
              have hok := Eq.mp (if_pos c_9) hok
              refine lv_iconst (v := (1 : Int32)) hx hb dX10_openDoorsFor_47 (by decide) ?_
              refine lv_goto (tgt := 52) hx hb dX10_openDoorsFor_48 (by decide) ?_
              refine lv_iadd hx hb dX10_openDoorsFor_52 ?_
              refine lv_istore_n (lv' := [(2, .int (x2 + (1 : Int32))), (3, .int x3), (0, .ref dh0), (1, .int dr)]) hx hb dX10_openDoorsFor_53 rfl hl (by decide) rfl (fun ls hl => ?_)
              refine lv_iinc (v := (x3 + 1)) (lv' := [(3, .int (x3 + 1)), (2, .int (x2 + (1 : Int32))), (0, .ref dh0), (1, .int dr)]) hx hb dX10_openDoorsFor_54 hl (k := 1) rfl rfl (by decide) rfl (fun ls hl => ?_)
              refine lv_goto (tgt := 27) hx hb dX10_openDoorsFor_57 (by decide) ?_
              exact ih (x3 + 1) (x2 + (1 : Int32)) ls (lv_sub hl [0, 1, 2, 3] rfl) (upI_s (Int32.not_le.mp c_6) hu) hF hok
      exact L27 ((((u_4.1 (2 : Int32).toNatClampNeg)).toInt - ((0 : Int32)).toInt).toNat + 1) (0 : Int32) (0 : Int32) ls (lv_sub hl [0, 1, 2, 3] rfl) (upI_i) hF hok
    · exact absurd c_5 (by decide)
  · have hF := hF.trans (if_pos c_2)
    have hok := Eq.mp (if_pos c_2) hok
    refine lv_iconst (v := (1 : Int32)) hx hb dX10_openDoorsFor_9 (by decide) ?_
    refine lv_goto (tgt := 14) hx hb dX10_openDoorsFor_10 (by decide) ?_
    refine lv_iconst (v := (1 : Int32)) hx hb dX10_openDoorsFor_14 (by decide) ?_
    refine w_V (own := RX10) (cs := [wMo G dh0 dh1 dh2 dh3 dh4 dh5 dh6 dh7 d]) (rs := []) (As := [.int (1 : Int32), .int (1 : Int32)]) (rest := []) (c_X10_isThrown l G dh0 dh1 dh2 dh3 dh4 dh5 dh6 dh7 s.heap.size d (1 : Int32) (1 : Int32) (rfl)) ⟨hx, hb, hml, hown, hts⟩ g_X10_63 hdv_X10_isThrown hK hST hS hP hD hA [0] [] rfl rfl rfl (k0 := 0) rfl rfl rfl ⟨Nat.le_of_ble_eq_true rfl, Nat.le_of_ble_eq_true rfl⟩ ⟨Nat.le_of_ble_eq_true rfl, Nat.le_of_ble_eq_true rfl⟩ rfl hl.1 rfl (Nat.le_of_ble_eq_true rfl) dX10_openDoorsFor_15 (fun u_11 H locs huu hP hD hS => ?_)
    have eu_11 := huu
    have hP : va_P G.1 vwCl (fl [wMo G dh0 dh1 dh2 dh3 dh4 dh5 dh6 dh7 u_11]) H := hP
    have hD : va_D A (fl [wMo G dh0 dh1 dh2 dh3 dh4 dh5 dh6 dh7 u_11]) := hD
    refine W.eq (g2 := F0 m 18 ls [.int (1 : Int32)]) rfl ?_
    have hF : f_X10_openDoorsFor d dr = ((0 : Int32), u_11) := by subst eu_11; exact hF
    refine lv_if_eq (tgt := 23) hx hb dX10_openDoorsFor_18 (by decide) (fun c_12 => ?_) (fun c_12 => ?_)
    · exact absurd c_12 (by decide)
    · refine lv_iconst (v := (0 : Int32)) hx hb dX10_openDoorsFor_21 (by decide) ?_
      exact w_ret (u := ((0 : Int32), u_11)) hx hb hr hlk rfl hS rfl hF.symm hP hD (Nat.le_of_ble_eq_true rfl) (Nat.le_of_ble_eq_true rfl) dX10_openDoorsFor_22
theorem dX10_isHourOf_0 : decode cX10_isHourOf 0 = .ok (.aload_n 0, 1) := by decide +kernel
theorem dX10_isHourOf_1 : decode cX10_isHourOf 1 = .ok (.aload_n 0, 1) := by decide +kernel
theorem dX10_isHourOf_2 : decode cX10_isHourOf 2 = .ok (.iload_n 1, 1) := by decide +kernel
theorem dX10_isHourOf_3 : decode cX10_isHourOf 3 = .ok (.invokevirtual 75, 3) := by decide +kernel
theorem dX10_isHourOf_6 : decode cX10_isHourOf 6 = .ok (.ifCond .ne 7, 3) := by decide +kernel
theorem dX10_isHourOf_13 : decode cX10_isHourOf 13 = .ok (.iconst 0, 1) := by decide +kernel
theorem dX10_isHourOf_14 : decode cX10_isHourOf 14 = .ok (.iconst 1, 1) := by decide +kernel
theorem dX10_isHourOf_15 : decode cX10_isHourOf 15 = .ok (.invokevirtual 63, 3) := by decide +kernel
theorem dX10_isHourOf_18 : decode cX10_isHourOf 18 = .ok (.ifCond .ne 39, 3) := by decide +kernel
theorem dX10_isHourOf_21 : decode cX10_isHourOf 21 = .ok (.aload_n 0, 1) := by decide +kernel
theorem dX10_isHourOf_22 : decode cX10_isHourOf 22 = .ok (.iload_n 2, 1) := by decide +kernel
theorem dX10_isHourOf_23 : decode cX10_isHourOf 23 = .ok (.iconst 0, 1) := by decide +kernel
theorem dX10_isHourOf_24 : decode cX10_isHourOf 24 = .ok (.bipush 23, 2) := by decide +kernel
theorem dX10_isHourOf_26 : decode cX10_isHourOf 26 = .ok (.invokestatic 48, 3) := by decide +kernel
theorem dX10_isHourOf_29 : decode cX10_isHourOf 29 = .ok (.ifCond .ne 7, 3) := by decide +kernel
theorem dX10_isHourOf_36 : decode cX10_isHourOf 36 = .ok (.iconst 0, 1) := by decide +kernel
theorem dX10_isHourOf_37 : decode cX10_isHourOf 37 = .ok (.iconst 2, 1) := by decide +kernel
theorem dX10_isHourOf_38 : decode cX10_isHourOf 38 = .ok (.invokevirtual 63, 3) := by decide +kernel
theorem dX10_isHourOf_41 : decode cX10_isHourOf 41 = .ok (.ifCond .ne 16, 3) := by decide +kernel
theorem dX10_isHourOf_44 : decode cX10_isHourOf 44 = .ok (.aload_n 0, 1) := by decide +kernel
theorem dX10_isHourOf_45 : decode cX10_isHourOf 45 = .ok (.iload_n 1, 1) := by decide +kernel
theorem dX10_isHourOf_46 : decode cX10_isHourOf 46 = .ok (.iload_n 2, 1) := by decide +kernel
theorem dX10_isHourOf_47 : decode cX10_isHourOf 47 = .ok (.invokevirtual 106, 3) := by decide +kernel
theorem dX10_isHourOf_50 : decode cX10_isHourOf 50 = .ok (.ifCond .eq 7, 3) := by decide +kernel
theorem dX10_isHourOf_57 : decode cX10_isHourOf 57 = .ok (.iconst 0, 1) := by decide +kernel
theorem dX10_isHourOf_58 : decode cX10_isHourOf 58 = .ok (.ireturn, 1) := by decide +kernel
theorem dX10_isHourOf_53 : decode cX10_isHourOf 53 = .ok (.iconst 1, 1) := by decide +kernel
theorem dX10_isHourOf_54 : decode cX10_isHourOf 54 = .ok (.goto 4, 3) := by decide +kernel
theorem dX10_isHourOf_32 : decode cX10_isHourOf 32 = .ok (.iconst 1, 1) := by decide +kernel
theorem dX10_isHourOf_33 : decode cX10_isHourOf 33 = .ok (.goto 4, 3) := by decide +kernel
theorem dX10_isHourOf_9 : decode cX10_isHourOf 9 = .ok (.iconst 1, 1) := by decide +kernel
theorem dX10_isHourOf_10 : decode cX10_isHourOf 10 = .ok (.goto 4, 3) := by decide +kernel
def f_X10_isHourOf (d : MoV) (dr : Int32) (hh : Int32) : Int32 × MoV := (if (f_X10_isDoor d dr) = (0 : Int32) then (let u_18 : MoV := (f_X10_isThrown d (1 : Int32) (1 : Int32)); ((0 : Int32), u_18)) else (let u_4 : MoV := (f_X10_isThrown d (0 : Int32) (1 : Int32)); (if (f_X10_isIn hh (0 : Int32) (23 : Int32)) = (0 : Int32) then (let u_15 : MoV := (f_X10_isThrown u_4 (1 : Int32) (2 : Int32)); ((0 : Int32), u_15)) else (let u_9 : MoV := (f_X10_isThrown u_4 (0 : Int32) (2 : Int32)); (if (f_X10_isOwnHour u_9 dr hh) = (0 : Int32) then ((0 : Int32), u_9) else ((1 : Int32), u_9))))))
def ok_X10_isHourOf (d : MoV) (dr : Int32) (hh : Int32) : Prop := (if (f_X10_isDoor d dr) = (0 : Int32) then True else (let u_4 : MoV := (f_X10_isThrown d (0 : Int32) (1 : Int32)); (if (f_X10_isIn hh (0 : Int32) (23 : Int32)) = (0 : Int32) then True else (let u_9 : MoV := (f_X10_isThrown u_4 (0 : Int32) (2 : Int32)); (ok_X10_isOwnHour u_9 dr hh ∧ True)))))
set_option maxHeartbeats 4000000 in
set_option maxRecDepth 100000 in
theorem c_X10_isHourOf (l : Launch) (G : GG) (dh0 : Nat) (dh1 : Nat) (dh2 : Nat) (dh3 : Nat) (dh4 : Nat) (dh5 : Nat) (dh6 : Nat) (dh7 : Nat) (sz : Nat) (d : MoV) (dr : Int32) (hh : Int32) (hok : ok_X10_isHourOf d dr hh) : wMet l yX10_isHourOf cX10_isHourOf 3 (some .boolean) 3 0 0 G (fl [wMo G dh0 dh1 dh2 dh3 dh4 dh5 dh6 dh7 d]) [.ref dh0, .int dr, .int hh] sz (fun u : Int32 × MoV => some (.int u.1)) (fun u : Int32 × MoV => u = f_X10_isHourOf d dr hh ∧ narrow .boolean (.int ((f_X10_isHourOf d dr hh).1)) = .int ((f_X10_isHourOf d dr hh).1)) (fun u : Int32 × MoV => fl [wMo G dh0 dh1 dh2 dh3 dh4 dh5 dh6 dh7 u.2]) := by
  refine w_start (by decide +kernel) (Nat.le_of_ble_eq_true rfl) ?_
  intro p e s m below meth c A hx hb hr hml hts hown hlk hin hP hD hA hK hST ls hl
  have hS : va_S A s.heap s.heap [] := va_S.rf
  have hown : s.vm.findClass RX10 = some m.cls := hown
  have hl : lv_has ls 3 [(0, .ref dh0), (1, .int dr), (2, .int hh)] := hl
  have hF : f_X10_isHourOf d dr hh = (if (f_X10_isDoor d dr) = (0 : Int32) then (let u_18 : MoV := (f_X10_isThrown d (1 : Int32) (1 : Int32)); ((0 : Int32), u_18)) else (let u_4 : MoV := (f_X10_isThrown d (0 : Int32) (1 : Int32)); (if (f_X10_isIn hh (0 : Int32) (23 : Int32)) = (0 : Int32) then (let u_15 : MoV := (f_X10_isThrown u_4 (1 : Int32) (2 : Int32)); ((0 : Int32), u_15)) else (let u_9 : MoV := (f_X10_isThrown u_4 (0 : Int32) (2 : Int32)); (if (f_X10_isOwnHour u_9 dr hh) = (0 : Int32) then ((0 : Int32), u_9) else ((1 : Int32), u_9)))))) := rfl
  have hok : (if (f_X10_isDoor d dr) = (0 : Int32) then True else (let u_4 : MoV := (f_X10_isThrown d (0 : Int32) (1 : Int32)); (if (f_X10_isIn hh (0 : Int32) (23 : Int32)) = (0 : Int32) then True else (let u_9 : MoV := (f_X10_isThrown u_4 (0 : Int32) (2 : Int32)); (ok_X10_isOwnHour u_9 dr hh ∧ True))))) := hok
  refine lv_aload_n hx hb dX10_isHourOf_0 rfl (lv_at hl 0 rfl) ?_
  refine lv_aload_n hx hb dX10_isHourOf_1 rfl (lv_at hl 0 rfl) ?_
  refine lv_iload_n hx hb dX10_isHourOf_2 rfl (lv_at hl 1 rfl) ?_
  refine r_V (own := RX10) (v := (some (.int (f_X10_isDoor d dr)))) (st1 := [.int (f_X10_isDoor d dr), .ref dh0]) (As := [.int dr]) (rest := [.ref dh0]) (c_X10_isDoor l G dh0 dh1 dh2 dh3 dh4 dh5 dh6 dh7 d dr) ⟨hx, hb, hml, hown, hts⟩ g_X10_75 hdv_X10_isDoor hK hST hS hP [0, 1, 2, 3, 4, 5, 6, 7] rfl (k0 := 0) rfl rfl rfl ⟨Nat.le_of_ble_eq_true rfl, Nat.le_of_ble_eq_true rfl⟩ ⟨Nat.le_of_ble_eq_true rfl, Nat.le_of_ble_eq_true rfl⟩ rfl hl.1 rfl (Nat.le_of_ble_eq_true rfl) dX10_isHourOf_3 rfl (fun b_1 => ?_)
  refine lv_if_ne (tgt := 13) hx hb dX10_isHourOf_6 (by decide) (fun c_2 => ?_) (fun c_2 => ?_)
  · have hF := hF.trans (if_neg c_2)
    have hok := Eq.mp (if_neg c_2) hok
    refine lv_iconst (v := (0 : Int32)) hx hb dX10_isHourOf_13 (by decide) ?_
    refine lv_iconst (v := (1 : Int32)) hx hb dX10_isHourOf_14 (by decide) ?_
    refine w_V (own := RX10) (cs := [wMo G dh0 dh1 dh2 dh3 dh4 dh5 dh6 dh7 d]) (rs := []) (As := [.int (0 : Int32), .int (1 : Int32)]) (rest := []) (c_X10_isThrown l G dh0 dh1 dh2 dh3 dh4 dh5 dh6 dh7 s.heap.size d (0 : Int32) (1 : Int32) (rfl)) ⟨hx, hb, hml, hown, hts⟩ g_X10_63 hdv_X10_isThrown hK hST hS hP hD hA [0] [] rfl rfl rfl (k0 := 0) rfl rfl rfl ⟨Nat.le_of_ble_eq_true rfl, Nat.le_of_ble_eq_true rfl⟩ ⟨Nat.le_of_ble_eq_true rfl, Nat.le_of_ble_eq_true rfl⟩ rfl hl.1 rfl (Nat.le_of_ble_eq_true rfl) dX10_isHourOf_15 (fun u_4 H locs huu hP hD hS => ?_)
    have eu_4 := huu
    have hP : va_P G.1 vwCl (fl [wMo G dh0 dh1 dh2 dh3 dh4 dh5 dh6 dh7 u_4]) H := hP
    have hD : va_D A (fl [wMo G dh0 dh1 dh2 dh3 dh4 dh5 dh6 dh7 u_4]) := hD
    refine W.eq (g2 := F0 m 18 ls [.int (0 : Int32)]) rfl ?_
    have hF : f_X10_isHourOf d dr hh = (if (f_X10_isIn hh (0 : Int32) (23 : Int32)) = (0 : Int32) then (let u_15 : MoV := (f_X10_isThrown u_4 (1 : Int32) (2 : Int32)); ((0 : Int32), u_15)) else (let u_9 : MoV := (f_X10_isThrown u_4 (0 : Int32) (2 : Int32)); (if (f_X10_isOwnHour u_9 dr hh) = (0 : Int32) then ((0 : Int32), u_9) else ((1 : Int32), u_9)))) := by subst eu_4; exact hF
    have hok : (if (f_X10_isIn hh (0 : Int32) (23 : Int32)) = (0 : Int32) then True else (let u_9 : MoV := (f_X10_isThrown u_4 (0 : Int32) (2 : Int32)); (ok_X10_isOwnHour u_9 dr hh ∧ True))) := by subst eu_4; exact hok
    refine lv_if_ne (tgt := 57) hx hb dX10_isHourOf_18 (by decide) (fun c_5 => ?_) (fun c_5 => ?_)
    · exact absurd c_5 (by decide)
    · refine lv_aload_n hx hb dX10_isHourOf_21 rfl (lv_at hl 0 rfl) ?_
      refine lv_iload_n hx hb dX10_isHourOf_22 rfl (lv_at hl 2 rfl) ?_
      refine lv_iconst (v := (0 : Int32)) hx hb dX10_isHourOf_23 (by decide) ?_
      refine lv_bipush (v := (23 : Int32)) hx hb dX10_isHourOf_24 (by decide) ?_
      refine r_S (own := RX10) (v := (some (.int (f_X10_isIn hh (0 : Int32) (23 : Int32))))) (st1 := [.int (f_X10_isIn hh (0 : Int32) (23 : Int32)), .ref dh0]) (As := [.int hh, .int (0 : Int32), .int (23 : Int32)]) (rest := [.ref dh0]) (c_X10_isIn l G hh (0 : Int32) (23 : Int32)) ⟨hx, hb, hml, hown, hts⟩ g_X10_48 hds_X10_isIn hK hST hS hP [] rfl ⟨Nat.le_of_ble_eq_true rfl, Nat.le_of_ble_eq_true rfl⟩ ⟨Nat.le_of_ble_eq_true rfl, Nat.le_of_ble_eq_true rfl⟩ rfl hl.1 rfl (Nat.le_of_ble_eq_true rfl) dX10_isHourOf_26 rfl (fun b_6 => ?_)
      refine lv_if_ne (tgt := 36) hx hb dX10_isHourOf_29 (by decide) (fun c_7 => ?_) (fun c_7 => ?_)
      · have hF := hF.trans (if_neg c_7)
        have hok := Eq.mp (if_neg c_7) hok
        refine lv_iconst (v := (0 : Int32)) hx hb dX10_isHourOf_36 (by decide) ?_
        refine lv_iconst (v := (2 : Int32)) hx hb dX10_isHourOf_37 (by decide) ?_
        refine w_V (own := RX10) (cs := [wMo G dh0 dh1 dh2 dh3 dh4 dh5 dh6 dh7 u_4]) (rs := []) (As := [.int (0 : Int32), .int (2 : Int32)]) (rest := []) (c_X10_isThrown l G dh0 dh1 dh2 dh3 dh4 dh5 dh6 dh7 H.size u_4 (0 : Int32) (2 : Int32) (rfl)) ⟨hx, hb, hml, hown, hts⟩ g_X10_63 hdv_X10_isThrown hK hST hS hP hD hA [0] [] rfl rfl rfl (k0 := 0) rfl rfl rfl ⟨Nat.le_of_ble_eq_true rfl, Nat.le_of_ble_eq_true rfl⟩ ⟨Nat.le_of_ble_eq_true rfl, Nat.le_of_ble_eq_true rfl⟩ rfl hl.1 rfl (Nat.le_of_ble_eq_true rfl) dX10_isHourOf_38 (fun u_9 H locs huu hP hD hS => ?_)
        have eu_9 := huu
        have hP : va_P G.1 vwCl (fl [wMo G dh0 dh1 dh2 dh3 dh4 dh5 dh6 dh7 u_9]) H := hP
        have hD : va_D A (fl [wMo G dh0 dh1 dh2 dh3 dh4 dh5 dh6 dh7 u_9]) := hD
        refine W.eq (g2 := F0 m 41 ls [.int (0 : Int32)]) rfl ?_
        have hF : f_X10_isHourOf d dr hh = (if (f_X10_isOwnHour u_9 dr hh) = (0 : Int32) then ((0 : Int32), u_9) else ((1 : Int32), u_9)) := by subst eu_9; exact hF
        have hok : (ok_X10_isOwnHour u_9 dr hh ∧ True) := by subst eu_9; exact hok
        refine lv_if_ne (tgt := 57) hx hb dX10_isHourOf_41 (by decide) (fun c_10 => ?_) (fun c_10 => ?_)
        · exact absurd c_10 (by decide)
        · refine lv_aload_n hx hb dX10_isHourOf_44 rfl (lv_at hl 0 rfl) ?_
          refine lv_iload_n hx hb dX10_isHourOf_45 rfl (lv_at hl 1 rfl) ?_
          refine lv_iload_n hx hb dX10_isHourOf_46 rfl (lv_at hl 2 rfl) ?_
          have k_11 := hok.1
          have hok := hok.2
          refine r_V (own := RX10) (v := (some (.int (f_X10_isOwnHour u_9 dr hh)))) (st1 := [.int (f_X10_isOwnHour u_9 dr hh)]) (As := [.int dr, .int hh]) (rest := []) (c_X10_isOwnHour l G dh0 dh1 dh2 dh3 dh4 dh5 dh6 dh7 u_9 dr hh k_11) ⟨hx, hb, hml, hown, hts⟩ g_X10_106 hdv_X10_isOwnHour hK hST hS hP [0, 1, 2, 3, 4, 5, 6, 7] rfl (k0 := 0) rfl rfl rfl ⟨Nat.le_of_ble_eq_true rfl, Nat.le_of_ble_eq_true rfl⟩ ⟨Nat.le_of_ble_eq_true rfl, Nat.le_of_ble_eq_true rfl⟩ rfl hl.1 rfl (Nat.le_of_ble_eq_true rfl) dX10_isHourOf_47 rfl (fun b_12 => ?_)
          refine lv_if_eq (tgt := 57) hx hb dX10_isHourOf_50 (by decide) (fun c_13 => ?_) (fun c_13 => ?_)
          · have hF := hF.trans (if_pos c_13)
            refine lv_iconst (v := (0 : Int32)) hx hb dX10_isHourOf_57 (by decide) ?_
            exact w_ret (u := ((0 : Int32), u_9)) hx hb hr hlk rfl hS rfl ⟨hF.symm, (by rw [hF]; exact (rfl : narrow .boolean (.int (0 : Int32)) = .int (0 : Int32)))⟩ hP hD (Nat.le_of_ble_eq_true rfl) (Nat.le_of_ble_eq_true rfl) dX10_isHourOf_58
          · have hF := hF.trans (if_neg c_13)
            refine lv_iconst (v := (1 : Int32)) hx hb dX10_isHourOf_53 (by decide) ?_
            refine lv_goto (tgt := 58) hx hb dX10_isHourOf_54 (by decide) ?_
            exact w_ret (u := ((1 : Int32), u_9)) hx hb hr hlk rfl hS rfl ⟨hF.symm, (by rw [hF]; exact (rfl : narrow .boolean (.int (1 : Int32)) = .int (1 : Int32)))⟩ hP hD (Nat.le_of_ble_eq_true rfl) (Nat.le_of_ble_eq_true rfl) dX10_isHourOf_58
      · have hF := hF.trans (if_pos c_7)
        have hok := Eq.mp (if_pos c_7) hok
        refine lv_iconst (v := (1 : Int32)) hx hb dX10_isHourOf_32 (by decide) ?_
        refine lv_goto (tgt := 37) hx hb dX10_isHourOf_33 (by decide) ?_
        refine lv_iconst (v := (2 : Int32)) hx hb dX10_isHourOf_37 (by decide) ?_
        refine w_V (own := RX10) (cs := [wMo G dh0 dh1 dh2 dh3 dh4 dh5 dh6 dh7 u_4]) (rs := []) (As := [.int (1 : Int32), .int (2 : Int32)]) (rest := []) (c_X10_isThrown l G dh0 dh1 dh2 dh3 dh4 dh5 dh6 dh7 H.size u_4 (1 : Int32) (2 : Int32) (rfl)) ⟨hx, hb, hml, hown, hts⟩ g_X10_63 hdv_X10_isThrown hK hST hS hP hD hA [0] [] rfl rfl rfl (k0 := 0) rfl rfl rfl ⟨Nat.le_of_ble_eq_true rfl, Nat.le_of_ble_eq_true rfl⟩ ⟨Nat.le_of_ble_eq_true rfl, Nat.le_of_ble_eq_true rfl⟩ rfl hl.1 rfl (Nat.le_of_ble_eq_true rfl) dX10_isHourOf_38 (fun u_15 H locs huu hP hD hS => ?_)
        have eu_15 := huu
        have hP : va_P G.1 vwCl (fl [wMo G dh0 dh1 dh2 dh3 dh4 dh5 dh6 dh7 u_15]) H := hP
        have hD : va_D A (fl [wMo G dh0 dh1 dh2 dh3 dh4 dh5 dh6 dh7 u_15]) := hD
        refine W.eq (g2 := F0 m 41 ls [.int (1 : Int32)]) rfl ?_
        have hF : f_X10_isHourOf d dr hh = ((0 : Int32), u_15) := by subst eu_15; exact hF
        refine lv_if_ne (tgt := 57) hx hb dX10_isHourOf_41 (by decide) (fun c_16 => ?_) (fun c_16 => ?_)
        · refine lv_iconst (v := (0 : Int32)) hx hb dX10_isHourOf_57 (by decide) ?_
          exact w_ret (u := ((0 : Int32), u_15)) hx hb hr hlk rfl hS rfl ⟨hF.symm, (by rw [hF]; exact (rfl : narrow .boolean (.int (0 : Int32)) = .int (0 : Int32)))⟩ hP hD (Nat.le_of_ble_eq_true rfl) (Nat.le_of_ble_eq_true rfl) dX10_isHourOf_58
        · exact absurd c_16 (by decide)
  · have hF := hF.trans (if_pos c_2)
    have hok := Eq.mp (if_pos c_2) hok
    refine lv_iconst (v := (1 : Int32)) hx hb dX10_isHourOf_9 (by decide) ?_
    refine lv_goto (tgt := 14) hx hb dX10_isHourOf_10 (by decide) ?_
    refine lv_iconst (v := (1 : Int32)) hx hb dX10_isHourOf_14 (by decide) ?_
    refine w_V (own := RX10) (cs := [wMo G dh0 dh1 dh2 dh3 dh4 dh5 dh6 dh7 d]) (rs := []) (As := [.int (1 : Int32), .int (1 : Int32)]) (rest := []) (c_X10_isThrown l G dh0 dh1 dh2 dh3 dh4 dh5 dh6 dh7 s.heap.size d (1 : Int32) (1 : Int32) (rfl)) ⟨hx, hb, hml, hown, hts⟩ g_X10_63 hdv_X10_isThrown hK hST hS hP hD hA [0] [] rfl rfl rfl (k0 := 0) rfl rfl rfl ⟨Nat.le_of_ble_eq_true rfl, Nat.le_of_ble_eq_true rfl⟩ ⟨Nat.le_of_ble_eq_true rfl, Nat.le_of_ble_eq_true rfl⟩ rfl hl.1 rfl (Nat.le_of_ble_eq_true rfl) dX10_isHourOf_15 (fun u_18 H locs huu hP hD hS => ?_)
    have eu_18 := huu
    have hP : va_P G.1 vwCl (fl [wMo G dh0 dh1 dh2 dh3 dh4 dh5 dh6 dh7 u_18]) H := hP
    have hD : va_D A (fl [wMo G dh0 dh1 dh2 dh3 dh4 dh5 dh6 dh7 u_18]) := hD
    refine W.eq (g2 := F0 m 18 ls [.int (1 : Int32)]) rfl ?_
    have hF : f_X10_isHourOf d dr hh = ((0 : Int32), u_18) := by subst eu_18; exact hF
    refine lv_if_ne (tgt := 57) hx hb dX10_isHourOf_18 (by decide) (fun c_19 => ?_) (fun c_19 => ?_)
    · refine lv_iconst (v := (0 : Int32)) hx hb dX10_isHourOf_57 (by decide) ?_
      exact w_ret (u := ((0 : Int32), u_18)) hx hb hr hlk rfl hS rfl ⟨hF.symm, (by rw [hF]; exact (rfl : narrow .boolean (.int (0 : Int32)) = .int (0 : Int32)))⟩ hP hD (Nat.le_of_ble_eq_true rfl) (Nat.le_of_ble_eq_true rfl) dX10_isHourOf_58
    · exact absurd c_19 (by decide)
theorem dX10_hasException_0 : decode cX10_hasException 0 = .ok (.aload_n 0, 1) := by decide +kernel
theorem dX10_hasException_1 : decode cX10_hasException 1 = .ok (.aload_n 0, 1) := by decide +kernel
theorem dX10_hasException_2 : decode cX10_hasException 2 = .ok (.iload_n 1, 1) := by decide +kernel
theorem dX10_hasException_3 : decode cX10_hasException 3 = .ok (.invokevirtual 75, 3) := by decide +kernel
theorem dX10_hasException_6 : decode cX10_hasException 6 = .ok (.ifCond .ne 7, 3) := by decide +kernel
theorem dX10_hasException_13 : decode cX10_hasException 13 = .ok (.iconst 0, 1) := by decide +kernel
theorem dX10_hasException_14 : decode cX10_hasException 14 = .ok (.iconst 1, 1) := by decide +kernel
theorem dX10_hasException_15 : decode cX10_hasException 15 = .ok (.invokevirtual 63, 3) := by decide +kernel
theorem dX10_hasException_18 : decode cX10_hasException 18 = .ok (.ifCond .ne 16, 3) := by decide +kernel
theorem dX10_hasException_21 : decode cX10_hasException 21 = .ok (.aload_n 0, 1) := by decide +kernel
theorem dX10_hasException_22 : decode cX10_hasException 22 = .ok (.iload_n 1, 1) := by decide +kernel
theorem dX10_hasException_23 : decode cX10_hasException 23 = .ok (.iload_n 2, 1) := by decide +kernel
theorem dX10_hasException_24 : decode cX10_hasException 24 = .ok (.invokevirtual 89, 3) := by decide +kernel
theorem dX10_hasException_27 : decode cX10_hasException 27 = .ok (.ifCond .lt 7, 3) := by decide +kernel
theorem dX10_hasException_34 : decode cX10_hasException 34 = .ok (.iconst 0, 1) := by decide +kernel
theorem dX10_hasException_35 : decode cX10_hasException 35 = .ok (.ireturn, 1) := by decide +kernel
theorem dX10_hasException_30 : decode cX10_hasException 30 = .ok (.iconst 1, 1) := by decide +kernel
theorem dX10_hasException_31 : decode cX10_hasException 31 = .ok (.goto 4, 3) := by decide +kernel
theorem dX10_hasException_9 : decode cX10_hasException 9 = .ok (.iconst 1, 1) := by decide +kernel
theorem dX10_hasException_10 : decode cX10_hasException 10 = .ok (.goto 4, 3) := by decide +kernel
def f_X10_hasException (d : MoV) (dr : Int32) (dy : Int32) : Int32 × MoV := (if (f_X10_isDoor d dr) = (0 : Int32) then (let u_10 : MoV := (f_X10_isThrown d (1 : Int32) (1 : Int32)); ((0 : Int32), u_10)) else (let u_4 : MoV := (f_X10_isThrown d (0 : Int32) (1 : Int32)); (if (f_X10_place u_4 dr dy) < (0 : Int32) then ((0 : Int32), u_4) else ((1 : Int32), u_4))))
def ok_X10_hasException (d : MoV) (dr : Int32) (dy : Int32) : Prop := (if (f_X10_isDoor d dr) = (0 : Int32) then True else (let u_4 : MoV := (f_X10_isThrown d (0 : Int32) (1 : Int32)); (ok_X10_place u_4 dr dy ∧ True)))
set_option maxHeartbeats 4000000 in
set_option maxRecDepth 100000 in
theorem c_X10_hasException (l : Launch) (G : GG) (dh0 : Nat) (dh1 : Nat) (dh2 : Nat) (dh3 : Nat) (dh4 : Nat) (dh5 : Nat) (dh6 : Nat) (dh7 : Nat) (sz : Nat) (d : MoV) (dr : Int32) (dy : Int32) (hok : ok_X10_hasException d dr dy) : wMet l yX10_hasException cX10_hasException 3 (some .boolean) 3 0 0 G (fl [wMo G dh0 dh1 dh2 dh3 dh4 dh5 dh6 dh7 d]) [.ref dh0, .int dr, .int dy] sz (fun u : Int32 × MoV => some (.int u.1)) (fun u : Int32 × MoV => u = f_X10_hasException d dr dy ∧ narrow .boolean (.int ((f_X10_hasException d dr dy).1)) = .int ((f_X10_hasException d dr dy).1)) (fun u : Int32 × MoV => fl [wMo G dh0 dh1 dh2 dh3 dh4 dh5 dh6 dh7 u.2]) := by
  refine w_start (by decide +kernel) (Nat.le_of_ble_eq_true rfl) ?_
  intro p e s m below meth c A hx hb hr hml hts hown hlk hin hP hD hA hK hST ls hl
  have hS : va_S A s.heap s.heap [] := va_S.rf
  have hown : s.vm.findClass RX10 = some m.cls := hown
  have hl : lv_has ls 3 [(0, .ref dh0), (1, .int dr), (2, .int dy)] := hl
  have hF : f_X10_hasException d dr dy = (if (f_X10_isDoor d dr) = (0 : Int32) then (let u_10 : MoV := (f_X10_isThrown d (1 : Int32) (1 : Int32)); ((0 : Int32), u_10)) else (let u_4 : MoV := (f_X10_isThrown d (0 : Int32) (1 : Int32)); (if (f_X10_place u_4 dr dy) < (0 : Int32) then ((0 : Int32), u_4) else ((1 : Int32), u_4)))) := rfl
  have hok : (if (f_X10_isDoor d dr) = (0 : Int32) then True else (let u_4 : MoV := (f_X10_isThrown d (0 : Int32) (1 : Int32)); (ok_X10_place u_4 dr dy ∧ True))) := hok
  refine lv_aload_n hx hb dX10_hasException_0 rfl (lv_at hl 0 rfl) ?_
  refine lv_aload_n hx hb dX10_hasException_1 rfl (lv_at hl 0 rfl) ?_
  refine lv_iload_n hx hb dX10_hasException_2 rfl (lv_at hl 1 rfl) ?_
  refine r_V (own := RX10) (v := (some (.int (f_X10_isDoor d dr)))) (st1 := [.int (f_X10_isDoor d dr), .ref dh0]) (As := [.int dr]) (rest := [.ref dh0]) (c_X10_isDoor l G dh0 dh1 dh2 dh3 dh4 dh5 dh6 dh7 d dr) ⟨hx, hb, hml, hown, hts⟩ g_X10_75 hdv_X10_isDoor hK hST hS hP [0, 1, 2, 3, 4, 5, 6, 7] rfl (k0 := 0) rfl rfl rfl ⟨Nat.le_of_ble_eq_true rfl, Nat.le_of_ble_eq_true rfl⟩ ⟨Nat.le_of_ble_eq_true rfl, Nat.le_of_ble_eq_true rfl⟩ rfl hl.1 rfl (Nat.le_of_ble_eq_true rfl) dX10_hasException_3 rfl (fun b_1 => ?_)
  refine lv_if_ne (tgt := 13) hx hb dX10_hasException_6 (by decide) (fun c_2 => ?_) (fun c_2 => ?_)
  · have hF := hF.trans (if_neg c_2)
    have hok := Eq.mp (if_neg c_2) hok
    refine lv_iconst (v := (0 : Int32)) hx hb dX10_hasException_13 (by decide) ?_
    refine lv_iconst (v := (1 : Int32)) hx hb dX10_hasException_14 (by decide) ?_
    refine w_V (own := RX10) (cs := [wMo G dh0 dh1 dh2 dh3 dh4 dh5 dh6 dh7 d]) (rs := []) (As := [.int (0 : Int32), .int (1 : Int32)]) (rest := []) (c_X10_isThrown l G dh0 dh1 dh2 dh3 dh4 dh5 dh6 dh7 s.heap.size d (0 : Int32) (1 : Int32) (rfl)) ⟨hx, hb, hml, hown, hts⟩ g_X10_63 hdv_X10_isThrown hK hST hS hP hD hA [0] [] rfl rfl rfl (k0 := 0) rfl rfl rfl ⟨Nat.le_of_ble_eq_true rfl, Nat.le_of_ble_eq_true rfl⟩ ⟨Nat.le_of_ble_eq_true rfl, Nat.le_of_ble_eq_true rfl⟩ rfl hl.1 rfl (Nat.le_of_ble_eq_true rfl) dX10_hasException_15 (fun u_4 H locs huu hP hD hS => ?_)
    have eu_4 := huu
    have hP : va_P G.1 vwCl (fl [wMo G dh0 dh1 dh2 dh3 dh4 dh5 dh6 dh7 u_4]) H := hP
    have hD : va_D A (fl [wMo G dh0 dh1 dh2 dh3 dh4 dh5 dh6 dh7 u_4]) := hD
    refine W.eq (g2 := F0 m 18 ls [.int (0 : Int32)]) rfl ?_
    have hF : f_X10_hasException d dr dy = (if (f_X10_place u_4 dr dy) < (0 : Int32) then ((0 : Int32), u_4) else ((1 : Int32), u_4)) := by subst eu_4; exact hF
    have hok : (ok_X10_place u_4 dr dy ∧ True) := by subst eu_4; exact hok
    refine lv_if_ne (tgt := 34) hx hb dX10_hasException_18 (by decide) (fun c_5 => ?_) (fun c_5 => ?_)
    · exact absurd c_5 (by decide)
    · refine lv_aload_n hx hb dX10_hasException_21 rfl (lv_at hl 0 rfl) ?_
      refine lv_iload_n hx hb dX10_hasException_22 rfl (lv_at hl 1 rfl) ?_
      refine lv_iload_n hx hb dX10_hasException_23 rfl (lv_at hl 2 rfl) ?_
      have k_6 := hok.1
      have hok := hok.2
      refine r_V (own := RX10) (v := (some (.int (f_X10_place u_4 dr dy)))) (st1 := [.int (f_X10_place u_4 dr dy)]) (As := [.int dr, .int dy]) (rest := []) (c_X10_place l G dh0 dh1 dh2 dh3 dh4 dh5 dh6 dh7 u_4 dr dy k_6) ⟨hx, hb, hml, hown, hts⟩ g_X10_89 hdv_X10_place hK hST hS hP [0, 1, 2, 3, 4, 5, 6, 7] rfl (k0 := 0) rfl rfl rfl ⟨Nat.le_of_ble_eq_true rfl, Nat.le_of_ble_eq_true rfl⟩ ⟨Nat.le_of_ble_eq_true rfl, Nat.le_of_ble_eq_true rfl⟩ rfl hl.1 rfl (Nat.le_of_ble_eq_true rfl) dX10_hasException_24 rfl (fun b_7 => ?_)
      refine lv_if_lt (tgt := 34) hx hb dX10_hasException_27 (by decide) (fun c_8 => ?_) (fun c_8 => ?_)
      · have hF := hF.trans (if_pos c_8)
        refine lv_iconst (v := (0 : Int32)) hx hb dX10_hasException_34 (by decide) ?_
        exact w_ret (u := ((0 : Int32), u_4)) hx hb hr hlk rfl hS rfl ⟨hF.symm, (by rw [hF]; exact (rfl : narrow .boolean (.int (0 : Int32)) = .int (0 : Int32)))⟩ hP hD (Nat.le_of_ble_eq_true rfl) (Nat.le_of_ble_eq_true rfl) dX10_hasException_35
      · have hF := hF.trans (if_neg c_8)
        refine lv_iconst (v := (1 : Int32)) hx hb dX10_hasException_30 (by decide) ?_
        refine lv_goto (tgt := 35) hx hb dX10_hasException_31 (by decide) ?_
        exact w_ret (u := ((1 : Int32), u_4)) hx hb hr hlk rfl hS rfl ⟨hF.symm, (by rw [hF]; exact (rfl : narrow .boolean (.int (1 : Int32)) = .int (1 : Int32)))⟩ hP hD (Nat.le_of_ble_eq_true rfl) (Nat.le_of_ble_eq_true rfl) dX10_hasException_35
  · have hF := hF.trans (if_pos c_2)
    have hok := Eq.mp (if_pos c_2) hok
    refine lv_iconst (v := (1 : Int32)) hx hb dX10_hasException_9 (by decide) ?_
    refine lv_goto (tgt := 14) hx hb dX10_hasException_10 (by decide) ?_
    refine lv_iconst (v := (1 : Int32)) hx hb dX10_hasException_14 (by decide) ?_
    refine w_V (own := RX10) (cs := [wMo G dh0 dh1 dh2 dh3 dh4 dh5 dh6 dh7 d]) (rs := []) (As := [.int (1 : Int32), .int (1 : Int32)]) (rest := []) (c_X10_isThrown l G dh0 dh1 dh2 dh3 dh4 dh5 dh6 dh7 s.heap.size d (1 : Int32) (1 : Int32) (rfl)) ⟨hx, hb, hml, hown, hts⟩ g_X10_63 hdv_X10_isThrown hK hST hS hP hD hA [0] [] rfl rfl rfl (k0 := 0) rfl rfl rfl ⟨Nat.le_of_ble_eq_true rfl, Nat.le_of_ble_eq_true rfl⟩ ⟨Nat.le_of_ble_eq_true rfl, Nat.le_of_ble_eq_true rfl⟩ rfl hl.1 rfl (Nat.le_of_ble_eq_true rfl) dX10_hasException_15 (fun u_10 H locs huu hP hD hS => ?_)
    have eu_10 := huu
    have hP : va_P G.1 vwCl (fl [wMo G dh0 dh1 dh2 dh3 dh4 dh5 dh6 dh7 u_10]) H := hP
    have hD : va_D A (fl [wMo G dh0 dh1 dh2 dh3 dh4 dh5 dh6 dh7 u_10]) := hD
    refine W.eq (g2 := F0 m 18 ls [.int (1 : Int32)]) rfl ?_
    have hF : f_X10_hasException d dr dy = ((0 : Int32), u_10) := by subst eu_10; exact hF
    refine lv_if_ne (tgt := 34) hx hb dX10_hasException_18 (by decide) (fun c_11 => ?_) (fun c_11 => ?_)
    · refine lv_iconst (v := (0 : Int32)) hx hb dX10_hasException_34 (by decide) ?_
      exact w_ret (u := ((0 : Int32), u_10)) hx hb hr hlk rfl hS rfl ⟨hF.symm, (by rw [hF]; exact (rfl : narrow .boolean (.int (0 : Int32)) = .int (0 : Int32)))⟩ hP hD (Nat.le_of_ble_eq_true rfl) (Nat.le_of_ble_eq_true rfl) dX10_hasException_35
    · exact absurd c_11 (by decide)
theorem dX10_tellsException_0 : decode cX10_tellsException 0 = .ok (.aload_n 0, 1) := by decide +kernel
theorem dX10_tellsException_1 : decode cX10_tellsException 1 = .ok (.iload_n 1, 1) := by decide +kernel
theorem dX10_tellsException_2 : decode cX10_tellsException 2 = .ok (.iconst 0, 1) := by decide +kernel
theorem dX10_tellsException_3 : decode cX10_tellsException 3 = .ok (.aload_n 0, 1) := by decide +kernel
theorem dX10_tellsException_4 : decode cX10_tellsException 4 = .ok (.getfield 9, 3) := by decide +kernel
theorem dX10_tellsException_7 : decode cX10_tellsException 7 = .ok (.iconst 4, 1) := by decide +kernel
theorem dX10_tellsException_8 : decode cX10_tellsException 8 = .ok (.iaload, 1) := by decide +kernel
theorem dX10_tellsException_9 : decode cX10_tellsException 9 = .ok (.iconst 1, 1) := by decide +kernel
theorem dX10_tellsException_10 : decode cX10_tellsException 10 = .ok (.isub, 1) := by decide +kernel
theorem dX10_tellsException_11 : decode cX10_tellsException 11 = .ok (.invokestatic 48, 3) := by decide +kernel
theorem dX10_tellsException_14 : decode cX10_tellsException 14 = .ok (.ifCond .ne 7, 3) := by decide +kernel
theorem dX10_tellsException_21 : decode cX10_tellsException 21 = .ok (.iconst 0, 1) := by decide +kernel
theorem dX10_tellsException_22 : decode cX10_tellsException 22 = .ok (.iconst 1, 1) := by decide +kernel
theorem dX10_tellsException_23 : decode cX10_tellsException 23 = .ok (.invokevirtual 63, 3) := by decide +kernel
theorem dX10_tellsException_26 : decode cX10_tellsException 26 = .ok (.ifCond .eq 7, 3) := by decide +kernel
theorem dX10_tellsException_33 : decode cX10_tellsException 33 = .ok (.aload_n 0, 1) := by decide +kernel
theorem dX10_tellsException_34 : decode cX10_tellsException 34 = .ok (.iload_n 1, 1) := by decide +kernel
theorem dX10_tellsException_35 : decode cX10_tellsException 35 = .ok (.iload_n 2, 1) := by decide +kernel
theorem dX10_tellsException_36 : decode cX10_tellsException 36 = .ok (.invokevirtual 82, 3) := by decide +kernel
theorem dX10_tellsException_39 : decode cX10_tellsException 39 = .ok (.ireturn, 1) := by decide +kernel
theorem dX10_tellsException_17 : decode cX10_tellsException 17 = .ok (.iconst 1, 1) := by decide +kernel
theorem dX10_tellsException_18 : decode cX10_tellsException 18 = .ok (.goto 4, 3) := by decide +kernel
theorem dX10_tellsException_29 : decode cX10_tellsException 29 = .ok (.iconst 0, 1) := by decide +kernel
theorem dX10_tellsException_30 : decode cX10_tellsException 30 = .ok (.goto 9, 3) := by decide +kernel
def f_X10_tellsException (d : MoV) (ps : Int32) (wh : Int32) : Int32 × MoV := (if (f_X10_isIn ps (0 : Int32) ((d.1 (4 : Int32).toNatClampNeg) - (1 : Int32))) = (0 : Int32) then (let u_9 : MoV := (f_X10_isThrown d (1 : Int32) (1 : Int32)); ((0 : Int32), u_9)) else (let u_4 : MoV := (f_X10_isThrown d (0 : Int32) (1 : Int32)); ((f_X10_ofException u_4 ps wh), u_4)))
def ok_X10_tellsException (d : MoV) (ps : Int32) (wh : Int32) : Prop := (if (f_X10_isIn ps (0 : Int32) ((d.1 (4 : Int32).toNatClampNeg) - (1 : Int32))) = (0 : Int32) then True else (let u_4 : MoV := (f_X10_isThrown d (0 : Int32) (1 : Int32)); (ok_X10_ofException u_4 ps wh ∧ True)))
set_option maxHeartbeats 4000000 in
set_option maxRecDepth 100000 in
theorem c_X10_tellsException (l : Launch) (G : GG) (dh0 : Nat) (dh1 : Nat) (dh2 : Nat) (dh3 : Nat) (dh4 : Nat) (dh5 : Nat) (dh6 : Nat) (dh7 : Nat) (sz : Nat) (d : MoV) (ps : Int32) (wh : Int32) (hok : ok_X10_tellsException d ps wh) : wMet l yX10_tellsException cX10_tellsException 3 (some .int) 2 0 0 G (fl [wMo G dh0 dh1 dh2 dh3 dh4 dh5 dh6 dh7 d]) [.ref dh0, .int ps, .int wh] sz (fun u : Int32 × MoV => some (.int u.1)) (fun u : Int32 × MoV => u = f_X10_tellsException d ps wh) (fun u : Int32 × MoV => fl [wMo G dh0 dh1 dh2 dh3 dh4 dh5 dh6 dh7 u.2]) := by
  refine w_start (by decide +kernel) (Nat.le_of_ble_eq_true rfl) ?_
  intro p e s m below meth c A hx hb hr hml hts hown hlk hin hP hD hA hK hST ls hl
  have hS : va_S A s.heap s.heap [] := va_S.rf
  have hown : s.vm.findClass RX10 = some m.cls := hown
  have hl : lv_has ls 3 [(0, .ref dh0), (1, .int ps), (2, .int wh)] := hl
  have hF : f_X10_tellsException d ps wh = (if (f_X10_isIn ps (0 : Int32) ((d.1 (4 : Int32).toNatClampNeg) - (1 : Int32))) = (0 : Int32) then (let u_9 : MoV := (f_X10_isThrown d (1 : Int32) (1 : Int32)); ((0 : Int32), u_9)) else (let u_4 : MoV := (f_X10_isThrown d (0 : Int32) (1 : Int32)); ((f_X10_ofException u_4 ps wh), u_4))) := rfl
  have hok : (if (f_X10_isIn ps (0 : Int32) ((d.1 (4 : Int32).toNatClampNeg) - (1 : Int32))) = (0 : Int32) then True else (let u_4 : MoV := (f_X10_isThrown d (0 : Int32) (1 : Int32)); (ok_X10_ofException u_4 ps wh ∧ True))) := hok
  refine lv_aload_n hx hb dX10_tellsException_0 rfl (lv_at hl 0 rfl) ?_
  refine lv_iload_n hx hb dX10_tellsException_1 rfl (lv_at hl 1 rfl) ?_
  refine lv_iconst (v := (0 : Int32)) hx hb dX10_tellsException_2 (by decide) ?_
  refine lv_aload_n hx hb dX10_tellsException_3 rfl (lv_at hl 0 rfl) ?_
  refine va_get (D := G.1) (ci := 12) (v := .ref dh1) (C := RX10) (T := TX10) (N := 17) hx hb hts uws_X10 hown hK hP 0 rfl rfl 0 (by decide) (hts _ u_1680) (fun _ h9 => h9) rfl dX10_tellsException_4 ?_
  refine lv_iconst (v := (4 : Int32)) hx hb dX10_tellsException_7 (by decide) ?_
  refine va_iald hx hb hK hP 1 0 rfl rfl (vp_in_nI (n := 4) (by decide) (by decide)) dX10_tellsException_8 ?_
  refine lv_iconst (v := (1 : Int32)) hx hb dX10_tellsException_9 (by decide) ?_
  refine lv_isub hx hb dX10_tellsException_10 ?_
  refine r_S (own := RX10) (v := (some (.int (f_X10_isIn ps (0 : Int32) ((d.1 (4 : Int32).toNatClampNeg) - (1 : Int32)))))) (st1 := [.int (f_X10_isIn ps (0 : Int32) ((d.1 (4 : Int32).toNatClampNeg) - (1 : Int32))), .ref dh0]) (As := [.int ps, .int (0 : Int32), .int ((d.1 (4 : Int32).toNatClampNeg) - (1 : Int32))]) (rest := [.ref dh0]) (c_X10_isIn l G ps (0 : Int32) ((d.1 (4 : Int32).toNatClampNeg) - (1 : Int32))) ⟨hx, hb, hml, hown, hts⟩ g_X10_48 hds_X10_isIn hK hST hS hP [] rfl ⟨Nat.le_of_ble_eq_true rfl, Nat.le_of_ble_eq_true rfl⟩ ⟨Nat.le_of_ble_eq_true rfl, Nat.le_of_ble_eq_true rfl⟩ rfl hl.1 rfl (Nat.le_of_ble_eq_true rfl) dX10_tellsException_11 rfl (fun b_1 => ?_)
  refine lv_if_ne (tgt := 21) hx hb dX10_tellsException_14 (by decide) (fun c_2 => ?_) (fun c_2 => ?_)
  · have hF := hF.trans (if_neg c_2)
    have hok := Eq.mp (if_neg c_2) hok
    refine lv_iconst (v := (0 : Int32)) hx hb dX10_tellsException_21 (by decide) ?_
    refine lv_iconst (v := (1 : Int32)) hx hb dX10_tellsException_22 (by decide) ?_
    refine w_V (own := RX10) (cs := [wMo G dh0 dh1 dh2 dh3 dh4 dh5 dh6 dh7 d]) (rs := []) (As := [.int (0 : Int32), .int (1 : Int32)]) (rest := []) (c_X10_isThrown l G dh0 dh1 dh2 dh3 dh4 dh5 dh6 dh7 s.heap.size d (0 : Int32) (1 : Int32) (rfl)) ⟨hx, hb, hml, hown, hts⟩ g_X10_63 hdv_X10_isThrown hK hST hS hP hD hA [0] [] rfl rfl rfl (k0 := 0) rfl rfl rfl ⟨Nat.le_of_ble_eq_true rfl, Nat.le_of_ble_eq_true rfl⟩ ⟨Nat.le_of_ble_eq_true rfl, Nat.le_of_ble_eq_true rfl⟩ rfl hl.1 rfl (Nat.le_of_ble_eq_true rfl) dX10_tellsException_23 (fun u_4 H locs huu hP hD hS => ?_)
    have eu_4 := huu
    have hP : va_P G.1 vwCl (fl [wMo G dh0 dh1 dh2 dh3 dh4 dh5 dh6 dh7 u_4]) H := hP
    have hD : va_D A (fl [wMo G dh0 dh1 dh2 dh3 dh4 dh5 dh6 dh7 u_4]) := hD
    refine W.eq (g2 := F0 m 26 ls [.int (0 : Int32)]) rfl ?_
    have hF : f_X10_tellsException d ps wh = ((f_X10_ofException u_4 ps wh), u_4) := by subst eu_4; exact hF
    have hok : (ok_X10_ofException u_4 ps wh ∧ True) := by subst eu_4; exact hok
    refine lv_if_eq (tgt := 33) hx hb dX10_tellsException_26 (by decide) (fun c_5 => ?_) (fun c_5 => ?_)
    · refine lv_aload_n hx hb dX10_tellsException_33 rfl (lv_at hl 0 rfl) ?_
      refine lv_iload_n hx hb dX10_tellsException_34 rfl (lv_at hl 1 rfl) ?_
      refine lv_iload_n hx hb dX10_tellsException_35 rfl (lv_at hl 2 rfl) ?_
      have k_6 := hok.1
      have hok := hok.2
      refine r_V (own := RX10) (v := (some (.int (f_X10_ofException u_4 ps wh)))) (st1 := [.int (f_X10_ofException u_4 ps wh)]) (As := [.int ps, .int wh]) (rest := []) (c_X10_ofException l G dh0 dh1 dh2 dh3 dh4 dh5 dh6 dh7 u_4 ps wh k_6) ⟨hx, hb, hml, hown, hts⟩ g_X10_82 hdv_X10_ofException hK hST hS hP [0, 1, 2, 3, 4, 5, 6, 7] rfl (k0 := 0) rfl rfl rfl ⟨Nat.le_of_ble_eq_true rfl, Nat.le_of_ble_eq_true rfl⟩ ⟨Nat.le_of_ble_eq_true rfl, Nat.le_of_ble_eq_true rfl⟩ rfl hl.1 rfl (Nat.le_of_ble_eq_true rfl) dX10_tellsException_36 rfl (fun b_7 => ?_)
      exact w_ret (u := ((f_X10_ofException u_4 ps wh), u_4)) hx hb hr hlk rfl hS rfl hF.symm hP hD (Nat.le_of_ble_eq_true rfl) (Nat.le_of_ble_eq_true rfl) dX10_tellsException_39
    · exact absurd c_5 (by decide)
  · have hF := hF.trans (if_pos c_2)
    have hok := Eq.mp (if_pos c_2) hok
    refine lv_iconst (v := (1 : Int32)) hx hb dX10_tellsException_17 (by decide) ?_
    refine lv_goto (tgt := 22) hx hb dX10_tellsException_18 (by decide) ?_
    refine lv_iconst (v := (1 : Int32)) hx hb dX10_tellsException_22 (by decide) ?_
    refine w_V (own := RX10) (cs := [wMo G dh0 dh1 dh2 dh3 dh4 dh5 dh6 dh7 d]) (rs := []) (As := [.int (1 : Int32), .int (1 : Int32)]) (rest := []) (c_X10_isThrown l G dh0 dh1 dh2 dh3 dh4 dh5 dh6 dh7 s.heap.size d (1 : Int32) (1 : Int32) (rfl)) ⟨hx, hb, hml, hown, hts⟩ g_X10_63 hdv_X10_isThrown hK hST hS hP hD hA [0] [] rfl rfl rfl (k0 := 0) rfl rfl rfl ⟨Nat.le_of_ble_eq_true rfl, Nat.le_of_ble_eq_true rfl⟩ ⟨Nat.le_of_ble_eq_true rfl, Nat.le_of_ble_eq_true rfl⟩ rfl hl.1 rfl (Nat.le_of_ble_eq_true rfl) dX10_tellsException_23 (fun u_9 H locs huu hP hD hS => ?_)
    have eu_9 := huu
    have hP : va_P G.1 vwCl (fl [wMo G dh0 dh1 dh2 dh3 dh4 dh5 dh6 dh7 u_9]) H := hP
    have hD : va_D A (fl [wMo G dh0 dh1 dh2 dh3 dh4 dh5 dh6 dh7 u_9]) := hD
    refine W.eq (g2 := F0 m 26 ls [.int (1 : Int32)]) rfl ?_
    have hF : f_X10_tellsException d ps wh = ((0 : Int32), u_9) := by subst eu_9; exact hF
    refine lv_if_eq (tgt := 33) hx hb dX10_tellsException_26 (by decide) (fun c_10 => ?_) (fun c_10 => ?_)
    · exact absurd c_10 (by decide)
    · refine lv_iconst (v := (0 : Int32)) hx hb dX10_tellsException_29 (by decide) ?_
      refine lv_goto (tgt := 39) hx hb dX10_tellsException_30 (by decide) ?_
      exact w_ret (u := ((0 : Int32), u_9)) hx hb hr hlk rfl hS rfl hF.symm hP hD (Nat.le_of_ble_eq_true rfl) (Nat.le_of_ble_eq_true rfl) dX10_tellsException_39
theorem dX10_exceptionDoor_0 : decode cX10_exceptionDoor 0 = .ok (.aload_n 0, 1) := by decide +kernel
theorem dX10_exceptionDoor_1 : decode cX10_exceptionDoor 1 = .ok (.iload_n 1, 1) := by decide +kernel
theorem dX10_exceptionDoor_2 : decode cX10_exceptionDoor 2 = .ok (.iconst 1, 1) := by decide +kernel
theorem dX10_exceptionDoor_3 : decode cX10_exceptionDoor 3 = .ok (.invokevirtual 148, 3) := by decide +kernel
theorem u_1931 : Cond.methodLink RX10 148 yX10_tellsException ∈ UW := uw 1931 (by decide +kernel) rfl
theorem u_1933 : Cond.instanceMethod yX10_tellsException ∈ UW := uw 1933 (by decide +kernel) rfl
theorem u_46 : Cond.selects RX10 yX10_tellsException yX10_tellsException ∈ UW := uw 46 (by decide +kernel) rfl
theorem u_1934 : Cond.code yX10_tellsException cX10_tellsException 3 (some .int) ∈ UW := uw 1934 (by decide +kernel) rfl
theorem g_X10_148 : GoodIn UW (wsV RX10 148 RX10 yX10_tellsException (wsU yX10_tellsException cX10_tellsException 3 (some .int))) := gV u_1931 u_1933 u_46 u_77 u_1934
theorem hdv_X10_tellsException : yX10_tellsException.cls = RX10 ∧ yX10_tellsException.cls ≠ "java/lang/invoke/MethodHandle" ∧ yX10_tellsException.cls ≠ "java/lang/invoke/VarHandle" ∧ (parseMethodDescriptor yX10_tellsException.desc).map (fun d => d.parameters.length) = some 2 := by decide +kernel
theorem dX10_exceptionDoor_6 : decode cX10_exceptionDoor 6 = .ok (.ireturn, 1) := by decide +kernel
def f_X10_exceptionDoor (d : MoV) (ps : Int32) : Int32 × MoV := (let u_3 : Int32 × MoV := (f_X10_tellsException d ps (1 : Int32)); (u_3.1, u_3.2))
def ok_X10_exceptionDoor (d : MoV) (ps : Int32) : Prop := (ok_X10_tellsException d ps (1 : Int32) ∧ True)
set_option maxHeartbeats 4000000 in
set_option maxRecDepth 100000 in
theorem c_X10_exceptionDoor (l : Launch) (G : GG) (dh0 : Nat) (dh1 : Nat) (dh2 : Nat) (dh3 : Nat) (dh4 : Nat) (dh5 : Nat) (dh6 : Nat) (dh7 : Nat) (sz : Nat) (d : MoV) (ps : Int32) (hok : ok_X10_exceptionDoor d ps) : wMet l yX10_exceptionDoor cX10_exceptionDoor 2 (some .int) 3 0 0 G (fl [wMo G dh0 dh1 dh2 dh3 dh4 dh5 dh6 dh7 d]) [.ref dh0, .int ps] sz (fun u : Int32 × MoV => some (.int u.1)) (fun u : Int32 × MoV => u = f_X10_exceptionDoor d ps) (fun u : Int32 × MoV => fl [wMo G dh0 dh1 dh2 dh3 dh4 dh5 dh6 dh7 u.2]) := by
  refine w_start (by decide +kernel) (Nat.le_of_ble_eq_true rfl) ?_
  intro p e s m below meth c A hx hb hr hml hts hown hlk hin hP hD hA hK hST ls hl
  have hS : va_S A s.heap s.heap [] := va_S.rf
  have hown : s.vm.findClass RX10 = some m.cls := hown
  have hl : lv_has ls 2 [(0, .ref dh0), (1, .int ps)] := hl
  have hF : f_X10_exceptionDoor d ps = (let u_3 : Int32 × MoV := (f_X10_tellsException d ps (1 : Int32)); (u_3.1, u_3.2)) := rfl
  have hok : (ok_X10_tellsException d ps (1 : Int32) ∧ True) := hok
  refine lv_aload_n hx hb dX10_exceptionDoor_0 rfl (lv_at hl 0 rfl) ?_
  refine lv_iload_n hx hb dX10_exceptionDoor_1 rfl (lv_at hl 1 rfl) ?_
  refine lv_iconst (v := (1 : Int32)) hx hb dX10_exceptionDoor_2 (by decide) ?_
  have k_1 := hok.1
  have hok := hok.2
  refine w_V (own := RX10) (cs := [wMo G dh0 dh1 dh2 dh3 dh4 dh5 dh6 dh7 d]) (rs := []) (As := [.int ps, .int (1 : Int32)]) (rest := []) (c_X10_tellsException l G dh0 dh1 dh2 dh3 dh4 dh5 dh6 dh7 s.heap.size d ps (1 : Int32) k_1) ⟨hx, hb, hml, hown, hts⟩ g_X10_148 hdv_X10_tellsException hK hST hS hP hD hA [0] [] rfl rfl rfl (k0 := 0) rfl rfl rfl ⟨Nat.le_of_ble_eq_true rfl, Nat.le_of_ble_eq_true rfl⟩ ⟨Nat.le_of_ble_eq_true rfl, Nat.le_of_ble_eq_true rfl⟩ rfl hl.1 rfl (Nat.le_of_ble_eq_true rfl) dX10_exceptionDoor_3 (fun u_3 H locs huu hP hD hS => ?_)
  have eu_3 := huu
  have hP : va_P G.1 vwCl (fl [wMo G dh0 dh1 dh2 dh3 dh4 dh5 dh6 dh7 u_3.2]) H := hP
  have hD : va_D A (fl [wMo G dh0 dh1 dh2 dh3 dh4 dh5 dh6 dh7 u_3.2]) := hD
  refine W.eq (g2 := F0 m 6 ls [.int u_3.1]) rfl ?_
  have hF : f_X10_exceptionDoor d ps = (u_3.1, u_3.2) := by subst eu_3; exact hF
  exact w_ret (u := (u_3.1, u_3.2)) hx hb hr hlk rfl hS rfl hF.symm hP hD (Nat.le_of_ble_eq_true rfl) (Nat.le_of_ble_eq_true rfl) dX10_exceptionDoor_6
theorem dX10_exceptionDay_0 : decode cX10_exceptionDay 0 = .ok (.aload_n 0, 1) := by decide +kernel
theorem dX10_exceptionDay_1 : decode cX10_exceptionDay 1 = .ok (.iload_n 1, 1) := by decide +kernel
theorem dX10_exceptionDay_2 : decode cX10_exceptionDay 2 = .ok (.iconst 0, 1) := by decide +kernel
theorem dX10_exceptionDay_3 : decode cX10_exceptionDay 3 = .ok (.invokevirtual 148, 3) := by decide +kernel
theorem dX10_exceptionDay_6 : decode cX10_exceptionDay 6 = .ok (.ireturn, 1) := by decide +kernel
def f_X10_exceptionDay (d : MoV) (ps : Int32) : Int32 × MoV := (let u_3 : Int32 × MoV := (f_X10_tellsException d ps (0 : Int32)); (u_3.1, u_3.2))
def ok_X10_exceptionDay (d : MoV) (ps : Int32) : Prop := (ok_X10_tellsException d ps (0 : Int32) ∧ True)
set_option maxHeartbeats 4000000 in
set_option maxRecDepth 100000 in
theorem c_X10_exceptionDay (l : Launch) (G : GG) (dh0 : Nat) (dh1 : Nat) (dh2 : Nat) (dh3 : Nat) (dh4 : Nat) (dh5 : Nat) (dh6 : Nat) (dh7 : Nat) (sz : Nat) (d : MoV) (ps : Int32) (hok : ok_X10_exceptionDay d ps) : wMet l yX10_exceptionDay cX10_exceptionDay 2 (some .int) 3 0 0 G (fl [wMo G dh0 dh1 dh2 dh3 dh4 dh5 dh6 dh7 d]) [.ref dh0, .int ps] sz (fun u : Int32 × MoV => some (.int u.1)) (fun u : Int32 × MoV => u = f_X10_exceptionDay d ps) (fun u : Int32 × MoV => fl [wMo G dh0 dh1 dh2 dh3 dh4 dh5 dh6 dh7 u.2]) := by
  refine w_start (by decide +kernel) (Nat.le_of_ble_eq_true rfl) ?_
  intro p e s m below meth c A hx hb hr hml hts hown hlk hin hP hD hA hK hST ls hl
  have hS : va_S A s.heap s.heap [] := va_S.rf
  have hown : s.vm.findClass RX10 = some m.cls := hown
  have hl : lv_has ls 2 [(0, .ref dh0), (1, .int ps)] := hl
  have hF : f_X10_exceptionDay d ps = (let u_3 : Int32 × MoV := (f_X10_tellsException d ps (0 : Int32)); (u_3.1, u_3.2)) := rfl
  have hok : (ok_X10_tellsException d ps (0 : Int32) ∧ True) := hok
  refine lv_aload_n hx hb dX10_exceptionDay_0 rfl (lv_at hl 0 rfl) ?_
  refine lv_iload_n hx hb dX10_exceptionDay_1 rfl (lv_at hl 1 rfl) ?_
  refine lv_iconst (v := (0 : Int32)) hx hb dX10_exceptionDay_2 (by decide) ?_
  have k_1 := hok.1
  have hok := hok.2
  refine w_V (own := RX10) (cs := [wMo G dh0 dh1 dh2 dh3 dh4 dh5 dh6 dh7 d]) (rs := []) (As := [.int ps, .int (0 : Int32)]) (rest := []) (c_X10_tellsException l G dh0 dh1 dh2 dh3 dh4 dh5 dh6 dh7 s.heap.size d ps (0 : Int32) k_1) ⟨hx, hb, hml, hown, hts⟩ g_X10_148 hdv_X10_tellsException hK hST hS hP hD hA [0] [] rfl rfl rfl (k0 := 0) rfl rfl rfl ⟨Nat.le_of_ble_eq_true rfl, Nat.le_of_ble_eq_true rfl⟩ ⟨Nat.le_of_ble_eq_true rfl, Nat.le_of_ble_eq_true rfl⟩ rfl hl.1 rfl (Nat.le_of_ble_eq_true rfl) dX10_exceptionDay_3 (fun u_3 H locs huu hP hD hS => ?_)
  have eu_3 := huu
  have hP : va_P G.1 vwCl (fl [wMo G dh0 dh1 dh2 dh3 dh4 dh5 dh6 dh7 u_3.2]) H := hP
  have hD : va_D A (fl [wMo G dh0 dh1 dh2 dh3 dh4 dh5 dh6 dh7 u_3.2]) := hD
  refine W.eq (g2 := F0 m 6 ls [.int u_3.1]) rfl ?_
  have hF : f_X10_exceptionDay d ps = (u_3.1, u_3.2) := by subst eu_3; exact hF
  exact w_ret (u := (u_3.1, u_3.2)) hx hb hr hlk rfl hS rfl hF.symm hP hD (Nat.le_of_ble_eq_true rfl) (Nat.le_of_ble_eq_true rfl) dX10_exceptionDay_6
theorem dX10_hasKey_0 : decode cX10_hasKey 0 = .ok (.aload_n 0, 1) := by decide +kernel
theorem dX10_hasKey_1 : decode cX10_hasKey 1 = .ok (.aload_n 0, 1) := by decide +kernel
theorem dX10_hasKey_2 : decode cX10_hasKey 2 = .ok (.iload_n 1, 1) := by decide +kernel
theorem dX10_hasKey_3 : decode cX10_hasKey 3 = .ok (.invokevirtual 112, 3) := by decide +kernel
theorem dX10_hasKey_6 : decode cX10_hasKey 6 = .ok (.ifCond .ne 7, 3) := by decide +kernel
theorem dX10_hasKey_13 : decode cX10_hasKey 13 = .ok (.iconst 0, 1) := by decide +kernel
theorem dX10_hasKey_14 : decode cX10_hasKey 14 = .ok (.iconst 1, 1) := by decide +kernel
theorem dX10_hasKey_15 : decode cX10_hasKey 15 = .ok (.invokevirtual 63, 3) := by decide +kernel
theorem dX10_hasKey_18 : decode cX10_hasKey 18 = .ok (.ifCond .ne 16, 3) := by decide +kernel
theorem dX10_hasKey_21 : decode cX10_hasKey 21 = .ok (.aload_n 0, 1) := by decide +kernel
theorem dX10_hasKey_22 : decode cX10_hasKey 22 = .ok (.iload_n 1, 1) := by decide +kernel
theorem dX10_hasKey_23 : decode cX10_hasKey 23 = .ok (.iload_n 2, 1) := by decide +kernel
theorem dX10_hasKey_24 : decode cX10_hasKey 24 = .ok (.invokevirtual 115, 3) := by decide +kernel
theorem dX10_hasKey_27 : decode cX10_hasKey 27 = .ok (.ifCond .eq 7, 3) := by decide +kernel
theorem dX10_hasKey_34 : decode cX10_hasKey 34 = .ok (.iconst 0, 1) := by decide +kernel
theorem dX10_hasKey_35 : decode cX10_hasKey 35 = .ok (.ireturn, 1) := by decide +kernel
theorem dX10_hasKey_30 : decode cX10_hasKey 30 = .ok (.iconst 1, 1) := by decide +kernel
theorem dX10_hasKey_31 : decode cX10_hasKey 31 = .ok (.goto 4, 3) := by decide +kernel
theorem dX10_hasKey_9 : decode cX10_hasKey 9 = .ok (.iconst 1, 1) := by decide +kernel
theorem dX10_hasKey_10 : decode cX10_hasKey 10 = .ok (.goto 4, 3) := by decide +kernel
def f_X10_hasKey (d : MoV) (ps : Int32) (k : Int32) : Int32 × MoV := (if (f_X10_isPerson d ps) = (0 : Int32) then (let u_10 : MoV := (f_X10_isThrown d (1 : Int32) (1 : Int32)); ((0 : Int32), u_10)) else (let u_4 : MoV := (f_X10_isThrown d (0 : Int32) (1 : Int32)); (if (f_X10_has u_4 ps k) = (0 : Int32) then ((0 : Int32), u_4) else ((1 : Int32), u_4))))
def ok_X10_hasKey (d : MoV) (ps : Int32) (k : Int32) : Prop := (if (f_X10_isPerson d ps) = (0 : Int32) then True else (let u_4 : MoV := (f_X10_isThrown d (0 : Int32) (1 : Int32)); (ok_X10_has u_4 ps k ∧ True)))
set_option maxHeartbeats 4000000 in
set_option maxRecDepth 100000 in
theorem c_X10_hasKey (l : Launch) (G : GG) (dh0 : Nat) (dh1 : Nat) (dh2 : Nat) (dh3 : Nat) (dh4 : Nat) (dh5 : Nat) (dh6 : Nat) (dh7 : Nat) (sz : Nat) (d : MoV) (ps : Int32) (k : Int32) (hok : ok_X10_hasKey d ps k) : wMet l yX10_hasKey cX10_hasKey 3 (some .boolean) 4 0 0 G (fl [wMo G dh0 dh1 dh2 dh3 dh4 dh5 dh6 dh7 d]) [.ref dh0, .int ps, .int k] sz (fun u : Int32 × MoV => some (.int u.1)) (fun u : Int32 × MoV => u = f_X10_hasKey d ps k ∧ narrow .boolean (.int ((f_X10_hasKey d ps k).1)) = .int ((f_X10_hasKey d ps k).1)) (fun u : Int32 × MoV => fl [wMo G dh0 dh1 dh2 dh3 dh4 dh5 dh6 dh7 u.2]) := by
  refine w_start (by decide +kernel) (Nat.le_of_ble_eq_true rfl) ?_
  intro p e s m below meth c A hx hb hr hml hts hown hlk hin hP hD hA hK hST ls hl
  have hS : va_S A s.heap s.heap [] := va_S.rf
  have hown : s.vm.findClass RX10 = some m.cls := hown
  have hl : lv_has ls 3 [(0, .ref dh0), (1, .int ps), (2, .int k)] := hl
  have hF : f_X10_hasKey d ps k = (if (f_X10_isPerson d ps) = (0 : Int32) then (let u_10 : MoV := (f_X10_isThrown d (1 : Int32) (1 : Int32)); ((0 : Int32), u_10)) else (let u_4 : MoV := (f_X10_isThrown d (0 : Int32) (1 : Int32)); (if (f_X10_has u_4 ps k) = (0 : Int32) then ((0 : Int32), u_4) else ((1 : Int32), u_4)))) := rfl
  have hok : (if (f_X10_isPerson d ps) = (0 : Int32) then True else (let u_4 : MoV := (f_X10_isThrown d (0 : Int32) (1 : Int32)); (ok_X10_has u_4 ps k ∧ True))) := hok
  refine lv_aload_n hx hb dX10_hasKey_0 rfl (lv_at hl 0 rfl) ?_
  refine lv_aload_n hx hb dX10_hasKey_1 rfl (lv_at hl 0 rfl) ?_
  refine lv_iload_n hx hb dX10_hasKey_2 rfl (lv_at hl 1 rfl) ?_
  refine r_V (own := RX10) (v := (some (.int (f_X10_isPerson d ps)))) (st1 := [.int (f_X10_isPerson d ps), .ref dh0]) (As := [.int ps]) (rest := [.ref dh0]) (c_X10_isPerson l G dh0 dh1 dh2 dh3 dh4 dh5 dh6 dh7 d ps) ⟨hx, hb, hml, hown, hts⟩ g_X10_112 hdv_X10_isPerson hK hST hS hP [0, 1, 2, 3, 4, 5, 6, 7] rfl (k0 := 0) rfl rfl rfl ⟨Nat.le_of_ble_eq_true rfl, Nat.le_of_ble_eq_true rfl⟩ ⟨Nat.le_of_ble_eq_true rfl, Nat.le_of_ble_eq_true rfl⟩ rfl hl.1 rfl (Nat.le_of_ble_eq_true rfl) dX10_hasKey_3 rfl (fun b_1 => ?_)
  refine lv_if_ne (tgt := 13) hx hb dX10_hasKey_6 (by decide) (fun c_2 => ?_) (fun c_2 => ?_)
  · have hF := hF.trans (if_neg c_2)
    have hok := Eq.mp (if_neg c_2) hok
    refine lv_iconst (v := (0 : Int32)) hx hb dX10_hasKey_13 (by decide) ?_
    refine lv_iconst (v := (1 : Int32)) hx hb dX10_hasKey_14 (by decide) ?_
    refine w_V (own := RX10) (cs := [wMo G dh0 dh1 dh2 dh3 dh4 dh5 dh6 dh7 d]) (rs := []) (As := [.int (0 : Int32), .int (1 : Int32)]) (rest := []) (c_X10_isThrown l G dh0 dh1 dh2 dh3 dh4 dh5 dh6 dh7 s.heap.size d (0 : Int32) (1 : Int32) (rfl)) ⟨hx, hb, hml, hown, hts⟩ g_X10_63 hdv_X10_isThrown hK hST hS hP hD hA [0] [] rfl rfl rfl (k0 := 0) rfl rfl rfl ⟨Nat.le_of_ble_eq_true rfl, Nat.le_of_ble_eq_true rfl⟩ ⟨Nat.le_of_ble_eq_true rfl, Nat.le_of_ble_eq_true rfl⟩ rfl hl.1 rfl (Nat.le_of_ble_eq_true rfl) dX10_hasKey_15 (fun u_4 H locs huu hP hD hS => ?_)
    have eu_4 := huu
    have hP : va_P G.1 vwCl (fl [wMo G dh0 dh1 dh2 dh3 dh4 dh5 dh6 dh7 u_4]) H := hP
    have hD : va_D A (fl [wMo G dh0 dh1 dh2 dh3 dh4 dh5 dh6 dh7 u_4]) := hD
    refine W.eq (g2 := F0 m 18 ls [.int (0 : Int32)]) rfl ?_
    have hF : f_X10_hasKey d ps k = (if (f_X10_has u_4 ps k) = (0 : Int32) then ((0 : Int32), u_4) else ((1 : Int32), u_4)) := by subst eu_4; exact hF
    have hok : (ok_X10_has u_4 ps k ∧ True) := by subst eu_4; exact hok
    refine lv_if_ne (tgt := 34) hx hb dX10_hasKey_18 (by decide) (fun c_5 => ?_) (fun c_5 => ?_)
    · exact absurd c_5 (by decide)
    · refine lv_aload_n hx hb dX10_hasKey_21 rfl (lv_at hl 0 rfl) ?_
      refine lv_iload_n hx hb dX10_hasKey_22 rfl (lv_at hl 1 rfl) ?_
      refine lv_iload_n hx hb dX10_hasKey_23 rfl (lv_at hl 2 rfl) ?_
      have k_6 := hok.1
      have hok := hok.2
      refine r_V (own := RX10) (v := (some (.int (f_X10_has u_4 ps k)))) (st1 := [.int (f_X10_has u_4 ps k)]) (As := [.int ps, .int k]) (rest := []) (c_X10_has l G dh0 dh1 dh2 dh3 dh4 dh5 dh6 dh7 u_4 ps k k_6) ⟨hx, hb, hml, hown, hts⟩ g_X10_115 hdv_X10_has hK hST hS hP [0, 1, 2, 3, 4, 5, 6, 7] rfl (k0 := 0) rfl rfl rfl ⟨Nat.le_of_ble_eq_true rfl, Nat.le_of_ble_eq_true rfl⟩ ⟨Nat.le_of_ble_eq_true rfl, Nat.le_of_ble_eq_true rfl⟩ rfl hl.1 rfl (Nat.le_of_ble_eq_true rfl) dX10_hasKey_24 rfl (fun b_7 => ?_)
      refine lv_if_eq (tgt := 34) hx hb dX10_hasKey_27 (by decide) (fun c_8 => ?_) (fun c_8 => ?_)
      · have hF := hF.trans (if_pos c_8)
        refine lv_iconst (v := (0 : Int32)) hx hb dX10_hasKey_34 (by decide) ?_
        exact w_ret (u := ((0 : Int32), u_4)) hx hb hr hlk rfl hS rfl ⟨hF.symm, (by rw [hF]; exact (rfl : narrow .boolean (.int (0 : Int32)) = .int (0 : Int32)))⟩ hP hD (Nat.le_of_ble_eq_true rfl) (Nat.le_of_ble_eq_true rfl) dX10_hasKey_35
      · have hF := hF.trans (if_neg c_8)
        refine lv_iconst (v := (1 : Int32)) hx hb dX10_hasKey_30 (by decide) ?_
        refine lv_goto (tgt := 35) hx hb dX10_hasKey_31 (by decide) ?_
        exact w_ret (u := ((1 : Int32), u_4)) hx hb hr hlk rfl hS rfl ⟨hF.symm, (by rw [hF]; exact (rfl : narrow .boolean (.int (1 : Int32)) = .int (1 : Int32)))⟩ hP hD (Nat.le_of_ble_eq_true rfl) (Nat.le_of_ble_eq_true rfl) dX10_hasKey_35
  · have hF := hF.trans (if_pos c_2)
    have hok := Eq.mp (if_pos c_2) hok
    refine lv_iconst (v := (1 : Int32)) hx hb dX10_hasKey_9 (by decide) ?_
    refine lv_goto (tgt := 14) hx hb dX10_hasKey_10 (by decide) ?_
    refine lv_iconst (v := (1 : Int32)) hx hb dX10_hasKey_14 (by decide) ?_
    refine w_V (own := RX10) (cs := [wMo G dh0 dh1 dh2 dh3 dh4 dh5 dh6 dh7 d]) (rs := []) (As := [.int (1 : Int32), .int (1 : Int32)]) (rest := []) (c_X10_isThrown l G dh0 dh1 dh2 dh3 dh4 dh5 dh6 dh7 s.heap.size d (1 : Int32) (1 : Int32) (rfl)) ⟨hx, hb, hml, hown, hts⟩ g_X10_63 hdv_X10_isThrown hK hST hS hP hD hA [0] [] rfl rfl rfl (k0 := 0) rfl rfl rfl ⟨Nat.le_of_ble_eq_true rfl, Nat.le_of_ble_eq_true rfl⟩ ⟨Nat.le_of_ble_eq_true rfl, Nat.le_of_ble_eq_true rfl⟩ rfl hl.1 rfl (Nat.le_of_ble_eq_true rfl) dX10_hasKey_15 (fun u_10 H locs huu hP hD hS => ?_)
    have eu_10 := huu
    have hP : va_P G.1 vwCl (fl [wMo G dh0 dh1 dh2 dh3 dh4 dh5 dh6 dh7 u_10]) H := hP
    have hD : va_D A (fl [wMo G dh0 dh1 dh2 dh3 dh4 dh5 dh6 dh7 u_10]) := hD
    refine W.eq (g2 := F0 m 18 ls [.int (1 : Int32)]) rfl ?_
    have hF : f_X10_hasKey d ps k = ((0 : Int32), u_10) := by subst eu_10; exact hF
    refine lv_if_ne (tgt := 34) hx hb dX10_hasKey_18 (by decide) (fun c_11 => ?_) (fun c_11 => ?_)
    · refine lv_iconst (v := (0 : Int32)) hx hb dX10_hasKey_34 (by decide) ?_
      exact w_ret (u := ((0 : Int32), u_10)) hx hb hr hlk rfl hS rfl ⟨hF.symm, (by rw [hF]; exact (rfl : narrow .boolean (.int (0 : Int32)) = .int (0 : Int32)))⟩ hP hD (Nat.le_of_ble_eq_true rfl) (Nat.le_of_ble_eq_true rfl) dX10_hasKey_35
    · exact absurd c_11 (by decide)
theorem dX10_keyAt_0 : decode cX10_keyAt 0 = .ok (.aload_n 0, 1) := by decide +kernel
theorem dX10_keyAt_1 : decode cX10_keyAt 1 = .ok (.aload_n 0, 1) := by decide +kernel
theorem dX10_keyAt_2 : decode cX10_keyAt 2 = .ok (.iload_n 1, 1) := by decide +kernel
theorem dX10_keyAt_3 : decode cX10_keyAt 3 = .ok (.invokevirtual 112, 3) := by decide +kernel
theorem dX10_keyAt_6 : decode cX10_keyAt 6 = .ok (.ifCond .ne 7, 3) := by decide +kernel
theorem dX10_keyAt_13 : decode cX10_keyAt 13 = .ok (.iconst 0, 1) := by decide +kernel
theorem dX10_keyAt_14 : decode cX10_keyAt 14 = .ok (.iconst 1, 1) := by decide +kernel
theorem dX10_keyAt_15 : decode cX10_keyAt 15 = .ok (.invokevirtual 63, 3) := by decide +kernel
theorem dX10_keyAt_18 : decode cX10_keyAt 18 = .ok (.ifCond .eq 5, 3) := by decide +kernel
theorem dX10_keyAt_23 : decode cX10_keyAt 23 = .ok (.iconst 0, 1) := by decide +kernel
theorem dX10_keyAt_24 : decode cX10_keyAt 24 = .ok (.istore_n 3, 1) := by decide +kernel
theorem dX10_keyAt_25 : decode cX10_keyAt 25 = .ok (.iconst 0, 1) := by decide +kernel
theorem dX10_keyAt_26 : decode cX10_keyAt 26 = .ok (.istore 4, 2) := by decide +kernel
theorem dX10_keyAt_28 : decode cX10_keyAt 28 = .ok (.iload 4, 2) := by decide +kernel
theorem dX10_keyAt_30 : decode cX10_keyAt 30 = .ok (.bipush 8, 2) := by decide +kernel
theorem dX10_keyAt_32 : decode cX10_keyAt 32 = .ok (.if_icmp .ge 44, 3) := by decide +kernel
theorem dX10_keyAt_76 : decode cX10_keyAt 76 = .ok (.aload_n 0, 1) := by decide +kernel
theorem dX10_keyAt_77 : decode cX10_keyAt 77 = .ok (.iconst 2, 1) := by decide +kernel
theorem dX10_keyAt_78 : decode cX10_keyAt 78 = .ok (.putfield 38, 3) := by decide +kernel
theorem dX10_keyAt_81 : decode cX10_keyAt 81 = .ok (.iconst 0, 1) := by decide +kernel
theorem dX10_keyAt_82 : decode cX10_keyAt 82 = .ok (.ireturn, 1) := by decide +kernel
theorem dX10_keyAt_35 : decode cX10_keyAt 35 = .ok (.aload_n 0, 1) := by decide +kernel
theorem dX10_keyAt_36 : decode cX10_keyAt 36 = .ok (.iload_n 1, 1) := by decide +kernel
theorem dX10_keyAt_37 : decode cX10_keyAt 37 = .ok (.iload 4, 2) := by decide +kernel
theorem dX10_keyAt_39 : decode cX10_keyAt 39 = .ok (.invokevirtual 115, 3) := by decide +kernel
theorem dX10_keyAt_42 : decode cX10_keyAt 42 = .ok (.istore 5, 2) := by decide +kernel
theorem dX10_keyAt_44 : decode cX10_keyAt 44 = .ok (.iload 5, 2) := by decide +kernel
theorem dX10_keyAt_46 : decode cX10_keyAt 46 = .ok (.ifCond .eq 11, 3) := by decide +kernel
theorem dX10_keyAt_57 : decode cX10_keyAt 57 = .ok (.iload_n 3, 1) := by decide +kernel
theorem dX10_keyAt_58 : decode cX10_keyAt 58 = .ok (.iload 5, 2) := by decide +kernel
theorem dX10_keyAt_60 : decode cX10_keyAt 60 = .ok (.ifCond .eq 7, 3) := by decide +kernel
theorem dX10_keyAt_67 : decode cX10_keyAt 67 = .ok (.iconst 0, 1) := by decide +kernel
theorem dX10_keyAt_68 : decode cX10_keyAt 68 = .ok (.iadd, 1) := by decide +kernel
theorem dX10_keyAt_69 : decode cX10_keyAt 69 = .ok (.istore_n 3, 1) := by decide +kernel
theorem dX10_keyAt_70 : decode cX10_keyAt 70 = .ok (.iinc 4 1, 3) := by decide +kernel
theorem dX10_keyAt_73 : decode cX10_keyAt 73 = .ok (.goto (-45), 3) := by decide +kernel
theorem dX10_keyAt_49 : decode cX10_keyAt 49 = .ok (.iload_n 3, 1) := by decide +kernel
theorem dX10_keyAt_50 : decode cX10_keyAt 50 = .ok (.iload_n 2, 1) := by decide +kernel
theorem dX10_keyAt_51 : decode cX10_keyAt 51 = .ok (.if_icmp .ne 6, 3) := by decide +kernel
theorem dX10_keyAt_63 : decode cX10_keyAt 63 = .ok (.iconst 1, 1) := by decide +kernel
theorem dX10_keyAt_64 : decode cX10_keyAt 64 = .ok (.goto 4, 3) := by decide +kernel
theorem dX10_keyAt_54 : decode cX10_keyAt 54 = .ok (.iload 4, 2) := by decide +kernel
theorem dX10_keyAt_56 : decode cX10_keyAt 56 = .ok (.ireturn, 1) := by decide +kernel
theorem dX10_keyAt_9 : decode cX10_keyAt 9 = .ok (.iconst 1, 1) := by decide +kernel
theorem dX10_keyAt_10 : decode cX10_keyAt 10 = .ok (.goto 4, 3) := by decide +kernel
theorem dX10_keyAt_21 : decode cX10_keyAt 21 = .ok (.iconst 0, 1) := by decide +kernel
theorem dX10_keyAt_22 : decode cX10_keyAt 22 = .ok (.ireturn, 1) := by decide +kernel
def lp_X10_keyAt_28 (d : MoV) (ps : Int32) (q : Int32) (u_4 : MoV) : Nat → Int32 → Int32 → Int32 × MoV
  | 0, _, _ => (0, d)
  | n + 1, x4, x3 => (if (8 : Int32) ≤ x4 then ((0 : Int32), (mo5 u_4 (2 : Int32))) else (if (f_X10_has u_4 ps x4) = (0 : Int32) then (lp_X10_keyAt_28 d ps q u_4 n (x4 + 1) (x3 + (0 : Int32))) else (if x3 = q then (x4, u_4) else (lp_X10_keyAt_28 d ps q u_4 n (x4 + 1) (x3 + (1 : Int32))))))
def okl_lp_X10_keyAt_28 (d : MoV) (ps : Int32) (q : Int32) (u_4 : MoV) : Nat → Int32 → Int32 → Prop
  | 0, _, _ => True
  | n + 1, x4, x3 => (if (8 : Int32) ≤ x4 then True else (ok_X10_has u_4 ps x4 ∧ (if (f_X10_has u_4 ps x4) = (0 : Int32) then (okl_lp_X10_keyAt_28 d ps q u_4 n (x4 + 1) (x3 + (0 : Int32))) else (if x3 = q then True else (okl_lp_X10_keyAt_28 d ps q u_4 n (x4 + 1) (x3 + (1 : Int32)))))))
def f_X10_keyAt (d : MoV) (ps : Int32) (q : Int32) : Int32 × MoV := (if (f_X10_isPerson d ps) = (0 : Int32) then (let u_14 : MoV := (f_X10_isThrown d (1 : Int32) (1 : Int32)); ((0 : Int32), u_14)) else (let u_4 : MoV := (f_X10_isThrown d (0 : Int32) (1 : Int32)); (lp_X10_keyAt_28 d ps q u_4 ((((8 : Int32)).toInt - ((0 : Int32)).toInt).toNat + 1) (0 : Int32) (0 : Int32))))
def ok_X10_keyAt (d : MoV) (ps : Int32) (q : Int32) : Prop := (if (f_X10_isPerson d ps) = (0 : Int32) then True else (let u_4 : MoV := (f_X10_isThrown d (0 : Int32) (1 : Int32)); (okl_lp_X10_keyAt_28 d ps q u_4 ((((8 : Int32)).toInt - ((0 : Int32)).toInt).toNat + 1) (0 : Int32) (0 : Int32))))
set_option maxHeartbeats 4000000 in
set_option maxRecDepth 100000 in
theorem c_X10_keyAt (l : Launch) (G : GG) (dh0 : Nat) (dh1 : Nat) (dh2 : Nat) (dh3 : Nat) (dh4 : Nat) (dh5 : Nat) (dh6 : Nat) (dh7 : Nat) (sz : Nat) (d : MoV) (ps : Int32) (q : Int32) (hok : ok_X10_keyAt d ps q) : wMet l yX10_keyAt cX10_keyAt 6 (some .int) 4 0 0 G (fl [wMo G dh0 dh1 dh2 dh3 dh4 dh5 dh6 dh7 d]) [.ref dh0, .int ps, .int q] sz (fun u : Int32 × MoV => some (.int u.1)) (fun u : Int32 × MoV => u = f_X10_keyAt d ps q) (fun u : Int32 × MoV => fl [wMo G dh0 dh1 dh2 dh3 dh4 dh5 dh6 dh7 u.2]) := by
  refine w_start (by decide +kernel) (Nat.le_of_ble_eq_true rfl) ?_
  intro p e s m below meth c A hx hb hr hml hts hown hlk hin hP hD hA hK hST ls hl
  have hS : va_S A s.heap s.heap [] := va_S.rf
  have hown : s.vm.findClass RX10 = some m.cls := hown
  have hl : lv_has ls 6 [(0, .ref dh0), (1, .int ps), (2, .int q)] := hl
  have hF : f_X10_keyAt d ps q = (if (f_X10_isPerson d ps) = (0 : Int32) then (let u_14 : MoV := (f_X10_isThrown d (1 : Int32) (1 : Int32)); ((0 : Int32), u_14)) else (let u_4 : MoV := (f_X10_isThrown d (0 : Int32) (1 : Int32)); (lp_X10_keyAt_28 d ps q u_4 ((((8 : Int32)).toInt - ((0 : Int32)).toInt).toNat + 1) (0 : Int32) (0 : Int32)))) := rfl
  have hok : (if (f_X10_isPerson d ps) = (0 : Int32) then True else (let u_4 : MoV := (f_X10_isThrown d (0 : Int32) (1 : Int32)); (okl_lp_X10_keyAt_28 d ps q u_4 ((((8 : Int32)).toInt - ((0 : Int32)).toInt).toNat + 1) (0 : Int32) (0 : Int32)))) := hok
  refine lv_aload_n hx hb dX10_keyAt_0 rfl (lv_at hl 0 rfl) ?_
  refine lv_aload_n hx hb dX10_keyAt_1 rfl (lv_at hl 0 rfl) ?_
  refine lv_iload_n hx hb dX10_keyAt_2 rfl (lv_at hl 1 rfl) ?_
  refine r_V (own := RX10) (v := (some (.int (f_X10_isPerson d ps)))) (st1 := [.int (f_X10_isPerson d ps), .ref dh0]) (As := [.int ps]) (rest := [.ref dh0]) (c_X10_isPerson l G dh0 dh1 dh2 dh3 dh4 dh5 dh6 dh7 d ps) ⟨hx, hb, hml, hown, hts⟩ g_X10_112 hdv_X10_isPerson hK hST hS hP [0, 1, 2, 3, 4, 5, 6, 7] rfl (k0 := 0) rfl rfl rfl ⟨Nat.le_of_ble_eq_true rfl, Nat.le_of_ble_eq_true rfl⟩ ⟨Nat.le_of_ble_eq_true rfl, Nat.le_of_ble_eq_true rfl⟩ rfl hl.1 rfl (Nat.le_of_ble_eq_true rfl) dX10_keyAt_3 rfl (fun b_1 => ?_)
  refine lv_if_ne (tgt := 13) hx hb dX10_keyAt_6 (by decide) (fun c_2 => ?_) (fun c_2 => ?_)
  · have hF := hF.trans (if_neg c_2)
    have hok := Eq.mp (if_neg c_2) hok
    refine lv_iconst (v := (0 : Int32)) hx hb dX10_keyAt_13 (by decide) ?_
    refine lv_iconst (v := (1 : Int32)) hx hb dX10_keyAt_14 (by decide) ?_
    refine w_V (own := RX10) (cs := [wMo G dh0 dh1 dh2 dh3 dh4 dh5 dh6 dh7 d]) (rs := []) (As := [.int (0 : Int32), .int (1 : Int32)]) (rest := []) (c_X10_isThrown l G dh0 dh1 dh2 dh3 dh4 dh5 dh6 dh7 s.heap.size d (0 : Int32) (1 : Int32) (rfl)) ⟨hx, hb, hml, hown, hts⟩ g_X10_63 hdv_X10_isThrown hK hST hS hP hD hA [0] [] rfl rfl rfl (k0 := 0) rfl rfl rfl ⟨Nat.le_of_ble_eq_true rfl, Nat.le_of_ble_eq_true rfl⟩ ⟨Nat.le_of_ble_eq_true rfl, Nat.le_of_ble_eq_true rfl⟩ rfl hl.1 rfl (Nat.le_of_ble_eq_true rfl) dX10_keyAt_15 (fun u_4 H locs huu hP hD hS => ?_)
    have eu_4 := huu
    have hP : va_P G.1 vwCl (fl [wMo G dh0 dh1 dh2 dh3 dh4 dh5 dh6 dh7 u_4]) H := hP
    have hD : va_D A (fl [wMo G dh0 dh1 dh2 dh3 dh4 dh5 dh6 dh7 u_4]) := hD
    refine W.eq (g2 := F0 m 18 ls [.int (0 : Int32)]) rfl ?_
    have hF : f_X10_keyAt d ps q = (lp_X10_keyAt_28 d ps q u_4 ((((8 : Int32)).toInt - ((0 : Int32)).toInt).toNat + 1) (0 : Int32) (0 : Int32)) := by subst eu_4; exact hF
    have hok : (okl_lp_X10_keyAt_28 d ps q u_4 ((((8 : Int32)).toInt - ((0 : Int32)).toInt).toNat + 1) (0 : Int32) (0 : Int32)) := by subst eu_4; exact hok
    refine lv_if_eq (tgt := 23) hx hb dX10_keyAt_18 (by decide) (fun c_5 => ?_) (fun c_5 => ?_)
    · refine lv_iconst (v := (0 : Int32)) hx hb dX10_keyAt_23 (by decide) ?_
      refine lv_istore_n (lv' := [(3, .int (0 : Int32)), (0, .ref dh0), (1, .int ps), (2, .int q)]) hx hb dX10_keyAt_24 rfl hl (by decide) rfl (fun ls hl => ?_)
      refine lv_iconst (v := (0 : Int32)) hx hb dX10_keyAt_25 (by decide) ?_
      refine lv_istore (lv' := [(4, .int (0 : Int32)), (3, .int (0 : Int32)), (0, .ref dh0), (1, .int ps), (2, .int q)]) hx hb dX10_keyAt_26 hl (by decide) rfl (fun ls hl => ?_)
      have L28 : ∀ (n : Nat) (x4 : Int32) (x3 : Int32) (ls : Array Slot), lv_has ls 6 [(4, .int x4), (3, .int x3), (0, .ref dh0), (1, .int ps), (2, .int q)] → (upI x4 (8 : Int32) n) → f_X10_keyAt d ps q = lp_X10_keyAt_28 d ps q u_4 n x4 x3 → okl_lp_X10_keyAt_28 d ps q u_4 n x4 x3 → W p l e (rmd 4 0 0) s m ([.ref dh0, .int ps, .int q] : List Value).toArray below meth c H locs 0 0 (MQ below (wQ (fun u : Int32 × MoV => some (.int u.1)) (fun u : Int32 × MoV => u = f_X10_keyAt d ps q) (fun u : Int32 × MoV => fl [wMo G dh0 dh1 dh2 dh3 dh4 dh5 dh6 dh7 u.2]) G.1 A) ([.ref dh0, .int ps, .int q] : List Value).toArray s 0 0 A) (F0 m 28 ls []) := by
        intro n
        induction n with
        | zero => intro x4 x3 ls hl hu; exact absurd hu (upI_0)
        | succ n ih =>
          intro x4 x3 ls hl hu hF hok
          have hF : f_X10_keyAt d ps q = (if (8 : Int32) ≤ x4 then ((0 : Int32), (mo5 u_4 (2 : Int32))) else (if (f_X10_has u_4 ps x4) = (0 : Int32) then (lp_X10_keyAt_28 d ps q u_4 n (x4 + 1) (x3 + (0 : Int32))) else (if x3 = q then (x4, u_4) else (lp_X10_keyAt_28 d ps q u_4 n (x4 + 1) (x3 + (1 : Int32)))))) := hF
          have hok : (if (8 : Int32) ≤ x4 then True else (ok_X10_has u_4 ps x4 ∧ (if (f_X10_has u_4 ps x4) = (0 : Int32) then (okl_lp_X10_keyAt_28 d ps q u_4 n (x4 + 1) (x3 + (0 : Int32))) else (if x3 = q then True else (okl_lp_X10_keyAt_28 d ps q u_4 n (x4 + 1) (x3 + (1 : Int32))))))) := hok
          refine lv_iload hx hb dX10_keyAt_28 (lv_at hl 0 rfl) ?_
          refine lv_bipush (v := (8 : Int32)) hx hb dX10_keyAt_30 (by decide) ?_
          refine lv_icmp_ge (tgt := 76) hx hb dX10_keyAt_32 (by decide) (fun c_6 => ?_) (fun c_6 => ?_)
          · have hF := hF.trans (if_pos c_6)
            have hok := Eq.mp (if_pos c_6) hok
            refine lv_aload_n hx hb dX10_keyAt_76 rfl (lv_at hl 2 rfl) ?_
            refine lv_iconst (v := (2 : Int32)) hx hb dX10_keyAt_77 (by decide) ?_
            refine va_put (D := G.1) (ci := 12) (v := .int (2 : Int32)) (ty := .int) (C := RX10) (T := TX10) (N := 17) hx hb hts uws_X10 tyX10 tyX10_ok nmX10 hown hK hP hD hS 0 rfl rfl 5 (by decide) (hts _ u_1685) (fun _ h9 => h9) rfl (by decide +kernel) rfl rfl (Nat.le_of_ble_eq_true rfl) dX10_keyAt_78 (fun H locs hP hD hS => ?_)
            have hP : va_P G.1 vwCl (fl [wMo G dh0 dh1 dh2 dh3 dh4 dh5 dh6 dh7 (mo5 u_4 (2 : Int32))]) H := hP
            have hD : va_D A (fl [wMo G dh0 dh1 dh2 dh3 dh4 dh5 dh6 dh7 (mo5 u_4 (2 : Int32))]) := hD
            refine lv_iconst (v := (0 : Int32)) hx hb dX10_keyAt_81 (by decide) ?_
            exact w_ret (u := ((0 : Int32), (mo5 u_4 (2 : Int32)))) hx hb hr hlk rfl hS rfl hF.symm hP hD (Nat.le_of_ble_eq_true rfl) (Nat.le_of_ble_eq_true rfl) dX10_keyAt_82
          · have hF := hF.trans (if_neg c_6)
            have hok := Eq.mp (if_neg c_6) hok
            refine lv_aload_n hx hb dX10_keyAt_35 rfl (lv_at hl 2 rfl) ?_
            refine lv_iload_n hx hb dX10_keyAt_36 rfl (lv_at hl 3 rfl) ?_
            refine lv_iload hx hb dX10_keyAt_37 (lv_at hl 0 rfl) ?_
            have k_7 := hok.1
            have hok := hok.2
            refine r_V (own := RX10) (v := (some (.int (f_X10_has u_4 ps x4)))) (st1 := [.int (f_X10_has u_4 ps x4)]) (As := [.int ps, .int x4]) (rest := []) (c_X10_has l G dh0 dh1 dh2 dh3 dh4 dh5 dh6 dh7 u_4 ps x4 k_7) ⟨hx, hb, hml, hown, hts⟩ g_X10_115 hdv_X10_has hK hST hS hP [0, 1, 2, 3, 4, 5, 6, 7] rfl (k0 := 0) rfl rfl rfl ⟨Nat.le_of_ble_eq_true rfl, Nat.le_of_ble_eq_true rfl⟩ ⟨Nat.le_of_ble_eq_true rfl, Nat.le_of_ble_eq_true rfl⟩ rfl hl.1 rfl (Nat.le_of_ble_eq_true rfl) dX10_keyAt_39 rfl (fun b_8 => ?_)
            refine lv_istore (lv' := [(5, .int (f_X10_has u_4 ps x4)), (4, .int x4), (3, .int x3), (0, .ref dh0), (1, .int ps), (2, .int q)]) hx hb dX10_keyAt_42 hl (by decide) rfl (fun ls hl => ?_)
            refine lv_iload hx hb dX10_keyAt_44 (lv_at hl 0 rfl) ?_
            refine lv_if_eq (tgt := 57) hx hb dX10_keyAt_46 (by decide) (fun c_9 => ?_) (fun c_9 => ?_)
            · have hF := hF.trans (if_pos c_9)
              have hok := Eq.mp (if_pos c_9) hok
              refine lv_iload_n hx hb dX10_keyAt_57 rfl (lv_at hl 2 rfl) ?_
              refine lv_iload hx hb dX10_keyAt_58 (lv_at hl 0 rfl) ?_
              refine lv_if_eq (tgt := 67) hx hb dX10_keyAt_60 (by decide) (fun c_10 => ?_) (fun c_10 => ?_)
              · refine lv_iconst (v := (0 : Int32)) hx hb dX10_keyAt_67 (by decide) ?_
                refine lv_iadd hx hb dX10_keyAt_68 ?_
                refine lv_istore_n (lv' := [(3, .int (x3 + (0 : Int32))), (5, .int (f_X10_has u_4 ps x4)), (4, .int x4), (0, .ref dh0), (1, .int ps), (2, .int q)]) hx hb dX10_keyAt_69 rfl hl (by decide) rfl (fun ls hl => ?_)
                refine lv_iinc (v := (x4 + 1)) (lv' := [(4, .int (x4 + 1)), (3, .int (x3 + (0 : Int32))), (5, .int (f_X10_has u_4 ps x4)), (0, .ref dh0), (1, .int ps), (2, .int q)]) hx hb dX10_keyAt_70 hl (k := 2) rfl rfl (by decide) rfl (fun ls hl => ?_)
                refine lv_goto (tgt := 28) hx hb dX10_keyAt_73 (by decide) ?_
                exact ih (x4 + 1) (x3 + (0 : Int32)) ls (lv_sub hl [0, 1, 3, 4, 5] rfl) (upI_s (Int32.not_le.mp c_6) hu) hF hok
              · exact absurd c_9 c_10
            · have hF := hF.trans (if_neg c_9)
              have hok := Eq.mp (if_neg c_9) hok
              refine lv_iload_n hx hb dX10_keyAt_49 rfl (lv_at hl 2 rfl) ?_
              refine lv_iload_n hx hb dX10_keyAt_50 rfl (lv_at hl 5 rfl) ?_
              refine lv_icmp_ne (tgt := 57) hx hb dX10_keyAt_51 (by decide) (fun c_11 => ?_) (fun c_11 => ?_)
              · have hF := hF.trans (if_neg c_11)
                have hok := Eq.mp (if_neg c_11) hok
                refine lv_iload_n hx hb dX10_keyAt_57 rfl (lv_at hl 2 rfl) ?_
                refine lv_iload hx hb dX10_keyAt_58 (lv_at hl 0 rfl) ?_
                refine lv_if_eq (tgt := 67) hx hb dX10_keyAt_60 (by decide) (fun c_12 => ?_) (fun c_12 => ?_)
                · exact absurd c_12 c_9
                · refine lv_iconst (v := (1 : Int32)) hx hb dX10_keyAt_63 (by decide) ?_
                  refine lv_goto (tgt := 68) hx hb dX10_keyAt_64 (by decide) ?_
                  refine lv_iadd hx hb dX10_keyAt_68 ?_
                  refine lv_istore_n (lv' := [(3, .int (x3 + (1 : Int32))), (5, .int (f_X10_has u_4 ps x4)), (4, .int x4), (0, .ref dh0), (1, .int ps), (2, .int q)]) hx hb dX10_keyAt_69 rfl hl (by decide) rfl (fun ls hl => ?_)
                  refine lv_iinc (v := (x4 + 1)) (lv' := [(4, .int (x4 + 1)), (3, .int (x3 + (1 : Int32))), (5, .int (f_X10_has u_4 ps x4)), (0, .ref dh0), (1, .int ps), (2, .int q)]) hx hb dX10_keyAt_70 hl (k := 2) rfl rfl (by decide) rfl (fun ls hl => ?_)
                  refine lv_goto (tgt := 28) hx hb dX10_keyAt_73 (by decide) ?_
                  exact ih (x4 + 1) (x3 + (1 : Int32)) ls (lv_sub hl [0, 1, 3, 4, 5] rfl) (upI_s (Int32.not_le.mp c_6) hu) hF hok
              · have hF := hF.trans (if_pos c_11)
                have hok := Eq.mp (if_pos c_11) hok
                refine lv_iload hx hb dX10_keyAt_54 (lv_at hl 1 rfl) ?_
                exact w_ret (u := (x4, u_4)) hx hb hr hlk rfl hS rfl hF.symm hP hD (Nat.le_of_ble_eq_true rfl) (Nat.le_of_ble_eq_true rfl) dX10_keyAt_56
      exact L28 ((((8 : Int32)).toInt - ((0 : Int32)).toInt).toNat + 1) (0 : Int32) (0 : Int32) ls (lv_sub hl [0, 1, 2, 3, 4] rfl) (upI_i) hF hok
    · exact absurd c_5 (by decide)
  · have hF := hF.trans (if_pos c_2)
    have hok := Eq.mp (if_pos c_2) hok
    refine lv_iconst (v := (1 : Int32)) hx hb dX10_keyAt_9 (by decide) ?_
    refine lv_goto (tgt := 14) hx hb dX10_keyAt_10 (by decide) ?_
    refine lv_iconst (v := (1 : Int32)) hx hb dX10_keyAt_14 (by decide) ?_
    refine w_V (own := RX10) (cs := [wMo G dh0 dh1 dh2 dh3 dh4 dh5 dh6 dh7 d]) (rs := []) (As := [.int (1 : Int32), .int (1 : Int32)]) (rest := []) (c_X10_isThrown l G dh0 dh1 dh2 dh3 dh4 dh5 dh6 dh7 s.heap.size d (1 : Int32) (1 : Int32) (rfl)) ⟨hx, hb, hml, hown, hts⟩ g_X10_63 hdv_X10_isThrown hK hST hS hP hD hA [0] [] rfl rfl rfl (k0 := 0) rfl rfl rfl ⟨Nat.le_of_ble_eq_true rfl, Nat.le_of_ble_eq_true rfl⟩ ⟨Nat.le_of_ble_eq_true rfl, Nat.le_of_ble_eq_true rfl⟩ rfl hl.1 rfl (Nat.le_of_ble_eq_true rfl) dX10_keyAt_15 (fun u_14 H locs huu hP hD hS => ?_)
    have eu_14 := huu
    have hP : va_P G.1 vwCl (fl [wMo G dh0 dh1 dh2 dh3 dh4 dh5 dh6 dh7 u_14]) H := hP
    have hD : va_D A (fl [wMo G dh0 dh1 dh2 dh3 dh4 dh5 dh6 dh7 u_14]) := hD
    refine W.eq (g2 := F0 m 18 ls [.int (1 : Int32)]) rfl ?_
    have hF : f_X10_keyAt d ps q = ((0 : Int32), u_14) := by subst eu_14; exact hF
    refine lv_if_eq (tgt := 23) hx hb dX10_keyAt_18 (by decide) (fun c_15 => ?_) (fun c_15 => ?_)
    · exact absurd c_15 (by decide)
    · refine lv_iconst (v := (0 : Int32)) hx hb dX10_keyAt_21 (by decide) ?_
      exact w_ret (u := ((0 : Int32), u_14)) hx hb hr hlk rfl hS rfl hF.symm hP hD (Nat.le_of_ble_eq_true rfl) (Nat.le_of_ble_eq_true rfl) dX10_keyAt_22
