theorem dX2_init_0 : decode cX2_init 0 = .ok (.aload_n 0, 1) := by decide +kernel
theorem dX2_init_1 : decode cX2_init 1 = .ok (.invokespecial 3, 3) := by decide +kernel
theorem u_939 : Cond.methodLink RX2 3 ⟨"java/lang/Object", "<init>", "()V"⟩ ∈ UW := uw 939 (by decide +kernel) rfl
theorem u_105 : Cond.instanceMethod ⟨"java/lang/Object", "<init>", "()V"⟩ ∈ UW := uw 105 (by decide +kernel) rfl
theorem u_106 : Cond.code ⟨"java/lang/Object", "<init>", "()V"⟩ object_method_1_code 1 none ∈ UW := uw 106 (by decide +kernel) rfl
theorem dX2_init_4 : decode cX2_init 4 = .ok (.aload_n 0, 1) := by decide +kernel
theorem dX2_init_5 : decode cX2_init 5 = .ok (.iconst 0, 1) := by decide +kernel
theorem dX2_init_6 : decode cX2_init 6 = .ok (.putfield 9, 3) := by decide +kernel
theorem dX2_init_9 : decode cX2_init 9 = .ok (.aload_n 0, 1) := by decide +kernel
theorem dX2_init_10 : decode cX2_init 10 = .ok (.bipush 8, 2) := by decide +kernel
theorem dX2_init_12 : decode cX2_init 12 = .ok (.newarray .int, 2) := by decide +kernel
theorem u_958 : Cond.arrayClass .int ∈ UW := uw 958 (by decide +kernel) rfl
theorem dX2_init_14 : decode cX2_init 14 = .ok (.putfield 15, 3) := by decide +kernel
theorem dX2_init_17 : decode cX2_init 17 = .ok (.aload_n 0, 1) := by decide +kernel
theorem dX2_init_18 : decode cX2_init 18 = .ok (.bipush 8, 2) := by decide +kernel
theorem dX2_init_20 : decode cX2_init 20 = .ok (.newarray .int, 2) := by decide +kernel
theorem dX2_init_22 : decode cX2_init 22 = .ok (.putfield 19, 3) := by decide +kernel
theorem dX2_init_25 : decode cX2_init 25 = .ok (.aload_n 0, 1) := by decide +kernel
theorem dX2_init_26 : decode cX2_init 26 = .ok (.bipush 8, 2) := by decide +kernel
theorem dX2_init_28 : decode cX2_init 28 = .ok (.newarray .int, 2) := by decide +kernel
theorem dX2_init_30 : decode cX2_init 30 = .ok (.putfield 22, 3) := by decide +kernel
theorem dX2_init_33 : decode cX2_init 33 = .ok (.aload_n 0, 1) := by decide +kernel
theorem dX2_init_34 : decode cX2_init 34 = .ok (.bipush 8, 2) := by decide +kernel
theorem dX2_init_36 : decode cX2_init 36 = .ok (.newarray .int, 2) := by decide +kernel
theorem dX2_init_38 : decode cX2_init 38 = .ok (.putfield 25, 3) := by decide +kernel
theorem dX2_init_41 : decode cX2_init 41 = .ok (.return_, 1) := by decide +kernel
set_option maxHeartbeats 4000000 in
set_option maxRecDepth 100000 in
theorem c_X2_init (l : Launch) (G : GG) (h0 : Nat) (sz : Nat) : wMet l yX2_init cX2_init 1 none 2 4 32 G (fl [[(h0, .inr (6, [.int (0 : Int32), .null, .null, .null, .null]))]]) [.ref h0] sz (fun u : Nat × Nat × Nat × Nat => none) (fun u : Nat × Nat × Nat × Nat => True) (fun u : Nat × Nat × Nat × Nat => fl [wDo G h0 u.1 u.2.1 u.2.2.1 u.2.2.2 doZ]) := by
  refine w_start (by decide +kernel) (Nat.le_of_ble_eq_true rfl) ?_
  intro p e s m below meth c A hx hb hr hml hts hown hlk hin hP hD hA hK hST ls hl
  have hS : va_S A s.heap s.heap [] := va_S.rf
  have hown : s.vm.findClass RX2 = some m.cls := hown
  have hl : lv_has ls 1 [(0, .ref h0)] := hl
  refine lv_aload_n hx hb dX2_init_0 rfl (lv_at hl 0 rfl) ?_
  refine W.objInit hx hb hown (hts _ u_939) (hts _ u_105) (hts _ u_106) rfl (by rw [hml]; exact hl.1) rfl dX2_init_1 (Nat.le_of_ble_eq_true rfl) (Nat.le_of_ble_eq_true rfl) ?_
  refine W.eq (g2 := F0 m 4 ls []) rfl ?_
  refine lv_aload_n hx hb dX2_init_4 rfl (lv_at hl 0 rfl) ?_
  refine lv_iconst (v := (0 : Int32)) hx hb dX2_init_5 (by decide) ?_
  refine va_put (D := G.1) (ci := 6) (v := .int (0 : Int32)) (ty := .int) (C := RX2) (T := TX2) (N := 5) hx hb hts uws_X2 tyX2 tyX2_ok nmX2 hown hK hP hD hS 0 rfl rfl 0 (by decide) (hts _ u_940) (fun _ h9 => h9) rfl (by decide +kernel) rfl rfl (Nat.le_of_ble_eq_true rfl) dX2_init_6 (fun H locs hP hD hS => ?_)
  have hP : va_P G.1 vwCl (fl [[(h0, .inr (6, [.int (0 : Int32), .null, .null, .null, .null]))]]) H := hP
  have hD : va_D A (fl [[(h0, .inr (6, [.int (0 : Int32), .null, .null, .null, .null]))]]) := hD
  refine lv_aload_n hx hb dX2_init_9 rfl (lv_at hl 0 rfl) ?_
  refine lv_bipush (v := (8 : Int32)) hx hb dX2_init_10 (by decide) ?_
  refine w_newI (N := 8) hx hb (hts _ u_958) hK hP hD hS hA (by decide) (by decide) (by decide) (Nat.le_of_ble_eq_true rfl) (Nat.le_of_ble_eq_true rfl) dX2_init_12 (fun q_1 H hP hD hS => ?_)
  have hP : va_P G.1 vwCl (fl [[(h0, .inr (6, [.int (0 : Int32), .null, .null, .null, .null]))], [cArr G q_1 8 (fun _ => 0)]]) H := hP
  have hD : va_D A (fl [[(h0, .inr (6, [.int (0 : Int32), .null, .null, .null, .null]))], [cArr G q_1 8 (fun _ => 0)]]) := hD
  refine va_putF (D := G.1) (ci := 6) (v := .ref q_1) (ty := .array .int) (C := RX2) (T := TX2) (N := 5) hx hb hts uws_X2 tyX2 tyX2_ok nmX2 hown hK hP hD hS 0 rfl rfl 1 (by decide) (hts _ u_943) (fun _ h9 => h9) rfl hin rfl (by decide +kernel) rfl rfl (Nat.le_of_ble_eq_true rfl) dX2_init_14 (fun H locs hP hD hS => ?_)
  have hP : va_P G.1 vwCl (fl [[(h0, .inr (6, [.int (0 : Int32), .ref q_1, .null, .null, .null]))], [cArr G q_1 8 (fun _ => 0)]]) H := hP
  have hD : va_D A (fl [[(h0, .inr (6, [.int (0 : Int32), .ref q_1, .null, .null, .null]))], [cArr G q_1 8 (fun _ => 0)]]) := hD
  refine lv_aload_n hx hb dX2_init_17 rfl (lv_at hl 0 rfl) ?_
  refine lv_bipush (v := (8 : Int32)) hx hb dX2_init_18 (by decide) ?_
  refine w_newI (N := 8) hx hb (hts _ u_958) hK hP hD hS hA (by decide) (by decide) (by decide) (Nat.le_of_ble_eq_true rfl) (Nat.le_of_ble_eq_true rfl) dX2_init_20 (fun q_2 H hP hD hS => ?_)
  have hP : va_P G.1 vwCl (fl [[(h0, .inr (6, [.int (0 : Int32), .ref q_1, .null, .null, .null]))], [cArr G q_1 8 (fun _ => 0)], [cArr G q_2 8 (fun _ => 0)]]) H := hP
  have hD : va_D A (fl [[(h0, .inr (6, [.int (0 : Int32), .ref q_1, .null, .null, .null]))], [cArr G q_1 8 (fun _ => 0)], [cArr G q_2 8 (fun _ => 0)]]) := hD
  refine va_putF (D := G.1) (ci := 6) (v := .ref q_2) (ty := .array .int) (C := RX2) (T := TX2) (N := 5) hx hb hts uws_X2 tyX2 tyX2_ok nmX2 hown hK hP hD hS 0 rfl rfl 2 (by decide) (hts _ u_944) (fun _ h9 => h9) rfl hin rfl (by decide +kernel) rfl rfl (Nat.le_of_ble_eq_true rfl) dX2_init_22 (fun H locs hP hD hS => ?_)
  have hP : va_P G.1 vwCl (fl [[(h0, .inr (6, [.int (0 : Int32), .ref q_1, .ref q_2, .null, .null]))], [cArr G q_1 8 (fun _ => 0)], [cArr G q_2 8 (fun _ => 0)]]) H := hP
  have hD : va_D A (fl [[(h0, .inr (6, [.int (0 : Int32), .ref q_1, .ref q_2, .null, .null]))], [cArr G q_1 8 (fun _ => 0)], [cArr G q_2 8 (fun _ => 0)]]) := hD
  refine lv_aload_n hx hb dX2_init_25 rfl (lv_at hl 0 rfl) ?_
  refine lv_bipush (v := (8 : Int32)) hx hb dX2_init_26 (by decide) ?_
  refine w_newI (N := 8) hx hb (hts _ u_958) hK hP hD hS hA (by decide) (by decide) (by decide) (Nat.le_of_ble_eq_true rfl) (Nat.le_of_ble_eq_true rfl) dX2_init_28 (fun q_3 H hP hD hS => ?_)
  have hP : va_P G.1 vwCl (fl [[(h0, .inr (6, [.int (0 : Int32), .ref q_1, .ref q_2, .null, .null]))], [cArr G q_1 8 (fun _ => 0)], [cArr G q_2 8 (fun _ => 0)], [cArr G q_3 8 (fun _ => 0)]]) H := hP
  have hD : va_D A (fl [[(h0, .inr (6, [.int (0 : Int32), .ref q_1, .ref q_2, .null, .null]))], [cArr G q_1 8 (fun _ => 0)], [cArr G q_2 8 (fun _ => 0)], [cArr G q_3 8 (fun _ => 0)]]) := hD
  refine va_putF (D := G.1) (ci := 6) (v := .ref q_3) (ty := .array .int) (C := RX2) (T := TX2) (N := 5) hx hb hts uws_X2 tyX2 tyX2_ok nmX2 hown hK hP hD hS 0 rfl rfl 3 (by decide) (hts _ u_945) (fun _ h9 => h9) rfl hin rfl (by decide +kernel) rfl rfl (Nat.le_of_ble_eq_true rfl) dX2_init_30 (fun H locs hP hD hS => ?_)
  have hP : va_P G.1 vwCl (fl [[(h0, .inr (6, [.int (0 : Int32), .ref q_1, .ref q_2, .ref q_3, .null]))], [cArr G q_1 8 (fun _ => 0)], [cArr G q_2 8 (fun _ => 0)], [cArr G q_3 8 (fun _ => 0)]]) H := hP
  have hD : va_D A (fl [[(h0, .inr (6, [.int (0 : Int32), .ref q_1, .ref q_2, .ref q_3, .null]))], [cArr G q_1 8 (fun _ => 0)], [cArr G q_2 8 (fun _ => 0)], [cArr G q_3 8 (fun _ => 0)]]) := hD
  refine lv_aload_n hx hb dX2_init_33 rfl (lv_at hl 0 rfl) ?_
  refine lv_bipush (v := (8 : Int32)) hx hb dX2_init_34 (by decide) ?_
  refine w_newI (N := 8) hx hb (hts _ u_958) hK hP hD hS hA (by decide) (by decide) (by decide) (Nat.le_of_ble_eq_true rfl) (Nat.le_of_ble_eq_true rfl) dX2_init_36 (fun q_4 H hP hD hS => ?_)
  have hP : va_P G.1 vwCl (fl [[(h0, .inr (6, [.int (0 : Int32), .ref q_1, .ref q_2, .ref q_3, .null]))], [cArr G q_1 8 (fun _ => 0)], [cArr G q_2 8 (fun _ => 0)], [cArr G q_3 8 (fun _ => 0)], [cArr G q_4 8 (fun _ => 0)]]) H := hP
  have hD : va_D A (fl [[(h0, .inr (6, [.int (0 : Int32), .ref q_1, .ref q_2, .ref q_3, .null]))], [cArr G q_1 8 (fun _ => 0)], [cArr G q_2 8 (fun _ => 0)], [cArr G q_3 8 (fun _ => 0)], [cArr G q_4 8 (fun _ => 0)]]) := hD
  refine va_putF (D := G.1) (ci := 6) (v := .ref q_4) (ty := .array .int) (C := RX2) (T := TX2) (N := 5) hx hb hts uws_X2 tyX2 tyX2_ok nmX2 hown hK hP hD hS 0 rfl rfl 4 (by decide) (hts _ u_946) (fun _ h9 => h9) rfl hin rfl (by decide +kernel) rfl rfl (Nat.le_of_ble_eq_true rfl) dX2_init_38 (fun H locs hP hD hS => ?_)
  have hP : va_P G.1 vwCl (fl [[(h0, .inr (6, [.int (0 : Int32), .ref q_1, .ref q_2, .ref q_3, .ref q_4]))], [cArr G q_1 8 (fun _ => 0)], [cArr G q_2 8 (fun _ => 0)], [cArr G q_3 8 (fun _ => 0)], [cArr G q_4 8 (fun _ => 0)]]) H := hP
  have hD : va_D A (fl [[(h0, .inr (6, [.int (0 : Int32), .ref q_1, .ref q_2, .ref q_3, .ref q_4]))], [cArr G q_1 8 (fun _ => 0)], [cArr G q_2 8 (fun _ => 0)], [cArr G q_3 8 (fun _ => 0)], [cArr G q_4 8 (fun _ => 0)]]) := hD
  exact w_retV (u := (q_1, q_2, q_3, q_4)) hx hb hr hlk hS rfl trivial hP hD (Nat.le_of_ble_eq_true rfl) (Nat.le_of_ble_eq_true rfl) dX2_init_41
theorem dX1_init_0 : decode cX1_init 0 = .ok (.aload_n 0, 1) := by decide +kernel
theorem dX1_init_1 : decode cX1_init 1 = .ok (.invokespecial 3, 3) := by decide +kernel
theorem u_963 : Cond.methodLink RX1 3 ⟨"java/lang/Object", "<init>", "()V"⟩ ∈ UW := uw 963 (by decide +kernel) rfl
theorem dX1_init_4 : decode cX1_init 4 = .ok (.aload_n 0, 1) := by decide +kernel
theorem dX1_init_5 : decode cX1_init 5 = .ok (.iconst 0, 1) := by decide +kernel
theorem dX1_init_6 : decode cX1_init 6 = .ok (.putfield 9, 3) := by decide +kernel
theorem dX1_init_9 : decode cX1_init 9 = .ok (.aload_n 0, 1) := by decide +kernel
theorem dX1_init_10 : decode cX1_init 10 = .ok (.bipush 12, 2) := by decide +kernel
theorem dX1_init_12 : decode cX1_init 12 = .ok (.newarray .int, 2) := by decide +kernel
theorem dX1_init_14 : decode cX1_init 14 = .ok (.putfield 15, 3) := by decide +kernel
theorem dX1_init_17 : decode cX1_init 17 = .ok (.aload_n 0, 1) := by decide +kernel
theorem dX1_init_18 : decode cX1_init 18 = .ok (.bipush 12, 2) := by decide +kernel
theorem dX1_init_20 : decode cX1_init 20 = .ok (.newarray .int, 2) := by decide +kernel
theorem dX1_init_22 : decode cX1_init 22 = .ok (.putfield 19, 3) := by decide +kernel
theorem dX1_init_25 : decode cX1_init 25 = .ok (.aload_n 0, 1) := by decide +kernel
theorem dX1_init_26 : decode cX1_init 26 = .ok (.bipush 12, 2) := by decide +kernel
theorem dX1_init_28 : decode cX1_init 28 = .ok (.newarray .int, 2) := by decide +kernel
theorem dX1_init_30 : decode cX1_init 30 = .ok (.putfield 22, 3) := by decide +kernel
theorem dX1_init_33 : decode cX1_init 33 = .ok (.return_, 1) := by decide +kernel
set_option maxHeartbeats 4000000 in
set_option maxRecDepth 100000 in
theorem c_X1_init (l : Launch) (G : GG) (h0 : Nat) (sz : Nat) : wMet l yX1_init cX1_init 1 none 2 3 36 G (fl [[(h0, .inr (5, [.int (0 : Int32), .null, .null, .null]))]]) [.ref h0] sz (fun u : Nat × Nat × Nat => none) (fun u : Nat × Nat × Nat => True) (fun u : Nat × Nat × Nat => fl [wEx G h0 u.1 u.2.1 u.2.2 exZ]) := by
  refine w_start (by decide +kernel) (Nat.le_of_ble_eq_true rfl) ?_
  intro p e s m below meth c A hx hb hr hml hts hown hlk hin hP hD hA hK hST ls hl
  have hS : va_S A s.heap s.heap [] := va_S.rf
  have hown : s.vm.findClass RX1 = some m.cls := hown
  have hl : lv_has ls 1 [(0, .ref h0)] := hl
  refine lv_aload_n hx hb dX1_init_0 rfl (lv_at hl 0 rfl) ?_
  refine W.objInit hx hb hown (hts _ u_963) (hts _ u_105) (hts _ u_106) rfl (by rw [hml]; exact hl.1) rfl dX1_init_1 (Nat.le_of_ble_eq_true rfl) (Nat.le_of_ble_eq_true rfl) ?_
  refine W.eq (g2 := F0 m 4 ls []) rfl ?_
  refine lv_aload_n hx hb dX1_init_4 rfl (lv_at hl 0 rfl) ?_
  refine lv_iconst (v := (0 : Int32)) hx hb dX1_init_5 (by decide) ?_
  refine va_put (D := G.1) (ci := 5) (v := .int (0 : Int32)) (ty := .int) (C := RX1) (T := TX1) (N := 4) hx hb hts uws_X1 tyX1 tyX1_ok nmX1 hown hK hP hD hS 0 rfl rfl 0 (by decide) (hts _ u_964) (fun _ h9 => h9) rfl (by decide +kernel) rfl rfl (Nat.le_of_ble_eq_true rfl) dX1_init_6 (fun H locs hP hD hS => ?_)
  have hP : va_P G.1 vwCl (fl [[(h0, .inr (5, [.int (0 : Int32), .null, .null, .null]))]]) H := hP
  have hD : va_D A (fl [[(h0, .inr (5, [.int (0 : Int32), .null, .null, .null]))]]) := hD
  refine lv_aload_n hx hb dX1_init_9 rfl (lv_at hl 0 rfl) ?_
  refine lv_bipush (v := (12 : Int32)) hx hb dX1_init_10 (by decide) ?_
  refine w_newI (N := 12) hx hb (hts _ u_958) hK hP hD hS hA (by decide) (by decide) (by decide) (Nat.le_of_ble_eq_true rfl) (Nat.le_of_ble_eq_true rfl) dX1_init_12 (fun q_1 H hP hD hS => ?_)
  have hP : va_P G.1 vwCl (fl [[(h0, .inr (5, [.int (0 : Int32), .null, .null, .null]))], [cArr G q_1 12 (fun _ => 0)]]) H := hP
  have hD : va_D A (fl [[(h0, .inr (5, [.int (0 : Int32), .null, .null, .null]))], [cArr G q_1 12 (fun _ => 0)]]) := hD
  refine va_putF (D := G.1) (ci := 5) (v := .ref q_1) (ty := .array .int) (C := RX1) (T := TX1) (N := 4) hx hb hts uws_X1 tyX1 tyX1_ok nmX1 hown hK hP hD hS 0 rfl rfl 1 (by decide) (hts _ u_967) (fun _ h9 => h9) rfl hin rfl (by decide +kernel) rfl rfl (Nat.le_of_ble_eq_true rfl) dX1_init_14 (fun H locs hP hD hS => ?_)
  have hP : va_P G.1 vwCl (fl [[(h0, .inr (5, [.int (0 : Int32), .ref q_1, .null, .null]))], [cArr G q_1 12 (fun _ => 0)]]) H := hP
  have hD : va_D A (fl [[(h0, .inr (5, [.int (0 : Int32), .ref q_1, .null, .null]))], [cArr G q_1 12 (fun _ => 0)]]) := hD
  refine lv_aload_n hx hb dX1_init_17 rfl (lv_at hl 0 rfl) ?_
  refine lv_bipush (v := (12 : Int32)) hx hb dX1_init_18 (by decide) ?_
  refine w_newI (N := 12) hx hb (hts _ u_958) hK hP hD hS hA (by decide) (by decide) (by decide) (Nat.le_of_ble_eq_true rfl) (Nat.le_of_ble_eq_true rfl) dX1_init_20 (fun q_2 H hP hD hS => ?_)
  have hP : va_P G.1 vwCl (fl [[(h0, .inr (5, [.int (0 : Int32), .ref q_1, .null, .null]))], [cArr G q_1 12 (fun _ => 0)], [cArr G q_2 12 (fun _ => 0)]]) H := hP
  have hD : va_D A (fl [[(h0, .inr (5, [.int (0 : Int32), .ref q_1, .null, .null]))], [cArr G q_1 12 (fun _ => 0)], [cArr G q_2 12 (fun _ => 0)]]) := hD
  refine va_putF (D := G.1) (ci := 5) (v := .ref q_2) (ty := .array .int) (C := RX1) (T := TX1) (N := 4) hx hb hts uws_X1 tyX1 tyX1_ok nmX1 hown hK hP hD hS 0 rfl rfl 2 (by decide) (hts _ u_968) (fun _ h9 => h9) rfl hin rfl (by decide +kernel) rfl rfl (Nat.le_of_ble_eq_true rfl) dX1_init_22 (fun H locs hP hD hS => ?_)
  have hP : va_P G.1 vwCl (fl [[(h0, .inr (5, [.int (0 : Int32), .ref q_1, .ref q_2, .null]))], [cArr G q_1 12 (fun _ => 0)], [cArr G q_2 12 (fun _ => 0)]]) H := hP
  have hD : va_D A (fl [[(h0, .inr (5, [.int (0 : Int32), .ref q_1, .ref q_2, .null]))], [cArr G q_1 12 (fun _ => 0)], [cArr G q_2 12 (fun _ => 0)]]) := hD
  refine lv_aload_n hx hb dX1_init_25 rfl (lv_at hl 0 rfl) ?_
  refine lv_bipush (v := (12 : Int32)) hx hb dX1_init_26 (by decide) ?_
  refine w_newI (N := 12) hx hb (hts _ u_958) hK hP hD hS hA (by decide) (by decide) (by decide) (Nat.le_of_ble_eq_true rfl) (Nat.le_of_ble_eq_true rfl) dX1_init_28 (fun q_3 H hP hD hS => ?_)
  have hP : va_P G.1 vwCl (fl [[(h0, .inr (5, [.int (0 : Int32), .ref q_1, .ref q_2, .null]))], [cArr G q_1 12 (fun _ => 0)], [cArr G q_2 12 (fun _ => 0)], [cArr G q_3 12 (fun _ => 0)]]) H := hP
  have hD : va_D A (fl [[(h0, .inr (5, [.int (0 : Int32), .ref q_1, .ref q_2, .null]))], [cArr G q_1 12 (fun _ => 0)], [cArr G q_2 12 (fun _ => 0)], [cArr G q_3 12 (fun _ => 0)]]) := hD
  refine va_putF (D := G.1) (ci := 5) (v := .ref q_3) (ty := .array .int) (C := RX1) (T := TX1) (N := 4) hx hb hts uws_X1 tyX1 tyX1_ok nmX1 hown hK hP hD hS 0 rfl rfl 3 (by decide) (hts _ u_969) (fun _ h9 => h9) rfl hin rfl (by decide +kernel) rfl rfl (Nat.le_of_ble_eq_true rfl) dX1_init_30 (fun H locs hP hD hS => ?_)
  have hP : va_P G.1 vwCl (fl [[(h0, .inr (5, [.int (0 : Int32), .ref q_1, .ref q_2, .ref q_3]))], [cArr G q_1 12 (fun _ => 0)], [cArr G q_2 12 (fun _ => 0)], [cArr G q_3 12 (fun _ => 0)]]) H := hP
  have hD : va_D A (fl [[(h0, .inr (5, [.int (0 : Int32), .ref q_1, .ref q_2, .ref q_3]))], [cArr G q_1 12 (fun _ => 0)], [cArr G q_2 12 (fun _ => 0)], [cArr G q_3 12 (fun _ => 0)]]) := hD
  exact w_retV (u := (q_1, q_2, q_3)) hx hb hr hlk hS rfl trivial hP hD (Nat.le_of_ble_eq_true rfl) (Nat.le_of_ble_eq_true rfl) dX1_init_33
theorem dX5_init_0 : decode cX5_init 0 = .ok (.aload_n 0, 1) := by decide +kernel
theorem dX5_init_1 : decode cX5_init 1 = .ok (.invokespecial 3, 3) := by decide +kernel
theorem u_983 : Cond.methodLink RX5 3 ⟨"java/lang/Object", "<init>", "()V"⟩ ∈ UW := uw 983 (by decide +kernel) rfl
theorem dX5_init_4 : decode cX5_init 4 = .ok (.aload_n 0, 1) := by decide +kernel
theorem dX5_init_5 : decode cX5_init 5 = .ok (.iconst 0, 1) := by decide +kernel
theorem dX5_init_6 : decode cX5_init 6 = .ok (.putfield 9, 3) := by decide +kernel
theorem dX5_init_9 : decode cX5_init 9 = .ok (.aload_n 0, 1) := by decide +kernel
theorem dX5_init_10 : decode cX5_init 10 = .ok (.bipush 6, 2) := by decide +kernel
theorem dX5_init_12 : decode cX5_init 12 = .ok (.newarray .int, 2) := by decide +kernel
theorem dX5_init_14 : decode cX5_init 14 = .ok (.putfield 15, 3) := by decide +kernel
theorem dX5_init_17 : decode cX5_init 17 = .ok (.aload_n 0, 1) := by decide +kernel
theorem dX5_init_18 : decode cX5_init 18 = .ok (.bipush 6, 2) := by decide +kernel
theorem dX5_init_20 : decode cX5_init 20 = .ok (.newarray .int, 2) := by decide +kernel
theorem dX5_init_22 : decode cX5_init 22 = .ok (.putfield 19, 3) := by decide +kernel
theorem dX5_init_25 : decode cX5_init 25 = .ok (.return_, 1) := by decide +kernel
set_option maxHeartbeats 4000000 in
set_option maxRecDepth 100000 in
theorem c_X5_init (l : Launch) (G : GG) (h0 : Nat) (sz : Nat) : wMet l yX5_init cX5_init 1 none 2 2 12 G (fl [[(h0, .inr (8, [.int (0 : Int32), .null, .null]))]]) [.ref h0] sz (fun u : Nat × Nat => none) (fun u : Nat × Nat => True) (fun u : Nat × Nat => fl [wPe G h0 u.1 u.2 peZ]) := by
  refine w_start (by decide +kernel) (Nat.le_of_ble_eq_true rfl) ?_
  intro p e s m below meth c A hx hb hr hml hts hown hlk hin hP hD hA hK hST ls hl
  have hS : va_S A s.heap s.heap [] := va_S.rf
  have hown : s.vm.findClass RX5 = some m.cls := hown
  have hl : lv_has ls 1 [(0, .ref h0)] := hl
  refine lv_aload_n hx hb dX5_init_0 rfl (lv_at hl 0 rfl) ?_
  refine W.objInit hx hb hown (hts _ u_983) (hts _ u_105) (hts _ u_106) rfl (by rw [hml]; exact hl.1) rfl dX5_init_1 (Nat.le_of_ble_eq_true rfl) (Nat.le_of_ble_eq_true rfl) ?_
  refine W.eq (g2 := F0 m 4 ls []) rfl ?_
  refine lv_aload_n hx hb dX5_init_4 rfl (lv_at hl 0 rfl) ?_
  refine lv_iconst (v := (0 : Int32)) hx hb dX5_init_5 (by decide) ?_
  refine va_put (D := G.1) (ci := 8) (v := .int (0 : Int32)) (ty := .int) (C := RX5) (T := TX5) (N := 3) hx hb hts uws_X5 tyX5 tyX5_ok nmX5 hown hK hP hD hS 0 rfl rfl 0 (by decide) (hts _ u_984) (fun _ h9 => h9) rfl (by decide +kernel) rfl rfl (Nat.le_of_ble_eq_true rfl) dX5_init_6 (fun H locs hP hD hS => ?_)
  have hP : va_P G.1 vwCl (fl [[(h0, .inr (8, [.int (0 : Int32), .null, .null]))]]) H := hP
  have hD : va_D A (fl [[(h0, .inr (8, [.int (0 : Int32), .null, .null]))]]) := hD
  refine lv_aload_n hx hb dX5_init_9 rfl (lv_at hl 0 rfl) ?_
  refine lv_bipush (v := (6 : Int32)) hx hb dX5_init_10 (by decide) ?_
  refine w_newI (N := 6) hx hb (hts _ u_958) hK hP hD hS hA (by decide) (by decide) (by decide) (Nat.le_of_ble_eq_true rfl) (Nat.le_of_ble_eq_true rfl) dX5_init_12 (fun q_1 H hP hD hS => ?_)
  have hP : va_P G.1 vwCl (fl [[(h0, .inr (8, [.int (0 : Int32), .null, .null]))], [cArr G q_1 6 (fun _ => 0)]]) H := hP
  have hD : va_D A (fl [[(h0, .inr (8, [.int (0 : Int32), .null, .null]))], [cArr G q_1 6 (fun _ => 0)]]) := hD
  refine va_putF (D := G.1) (ci := 8) (v := .ref q_1) (ty := .array .int) (C := RX5) (T := TX5) (N := 3) hx hb hts uws_X5 tyX5 tyX5_ok nmX5 hown hK hP hD hS 0 rfl rfl 1 (by decide) (hts _ u_986) (fun _ h9 => h9) rfl hin rfl (by decide +kernel) rfl rfl (Nat.le_of_ble_eq_true rfl) dX5_init_14 (fun H locs hP hD hS => ?_)
  have hP : va_P G.1 vwCl (fl [[(h0, .inr (8, [.int (0 : Int32), .ref q_1, .null]))], [cArr G q_1 6 (fun _ => 0)]]) H := hP
  have hD : va_D A (fl [[(h0, .inr (8, [.int (0 : Int32), .ref q_1, .null]))], [cArr G q_1 6 (fun _ => 0)]]) := hD
  refine lv_aload_n hx hb dX5_init_17 rfl (lv_at hl 0 rfl) ?_
  refine lv_bipush (v := (6 : Int32)) hx hb dX5_init_18 (by decide) ?_
  refine w_newI (N := 6) hx hb (hts _ u_958) hK hP hD hS hA (by decide) (by decide) (by decide) (Nat.le_of_ble_eq_true rfl) (Nat.le_of_ble_eq_true rfl) dX5_init_20 (fun q_2 H hP hD hS => ?_)
  have hP : va_P G.1 vwCl (fl [[(h0, .inr (8, [.int (0 : Int32), .ref q_1, .null]))], [cArr G q_1 6 (fun _ => 0)], [cArr G q_2 6 (fun _ => 0)]]) H := hP
  have hD : va_D A (fl [[(h0, .inr (8, [.int (0 : Int32), .ref q_1, .null]))], [cArr G q_1 6 (fun _ => 0)], [cArr G q_2 6 (fun _ => 0)]]) := hD
  refine va_putF (D := G.1) (ci := 8) (v := .ref q_2) (ty := .array .int) (C := RX5) (T := TX5) (N := 3) hx hb hts uws_X5 tyX5 tyX5_ok nmX5 hown hK hP hD hS 0 rfl rfl 2 (by decide) (hts _ u_987) (fun _ h9 => h9) rfl hin rfl (by decide +kernel) rfl rfl (Nat.le_of_ble_eq_true rfl) dX5_init_22 (fun H locs hP hD hS => ?_)
  have hP : va_P G.1 vwCl (fl [[(h0, .inr (8, [.int (0 : Int32), .ref q_1, .ref q_2]))], [cArr G q_1 6 (fun _ => 0)], [cArr G q_2 6 (fun _ => 0)]]) H := hP
  have hD : va_D A (fl [[(h0, .inr (8, [.int (0 : Int32), .ref q_1, .ref q_2]))], [cArr G q_1 6 (fun _ => 0)], [cArr G q_2 6 (fun _ => 0)]]) := hD
  exact w_retV (u := (q_1, q_2)) hx hb hr hlk hS rfl trivial hP hD (Nat.le_of_ble_eq_true rfl) (Nat.le_of_ble_eq_true rfl) dX5_init_25
theorem dX0_init_0 : decode cX0_init 0 = .ok (.aload_n 0, 1) := by decide +kernel
theorem dX0_init_1 : decode cX0_init 1 = .ok (.invokespecial 3, 3) := by decide +kernel
theorem u_1000 : Cond.methodLink RX0 3 ⟨"java/lang/Object", "<init>", "()V"⟩ ∈ UW := uw 1000 (by decide +kernel) rfl
theorem dX0_init_4 : decode cX0_init 4 = .ok (.aload_n 0, 1) := by decide +kernel
theorem dX0_init_5 : decode cX0_init 5 = .ok (.iconst 0, 1) := by decide +kernel
theorem dX0_init_6 : decode cX0_init 6 = .ok (.putfield 9, 3) := by decide +kernel
theorem dX0_init_9 : decode cX0_init 9 = .ok (.aload_n 0, 1) := by decide +kernel
theorem dX0_init_10 : decode cX0_init 10 = .ok (.bipush 64, 2) := by decide +kernel
theorem dX0_init_12 : decode cX0_init 12 = .ok (.newarray .int, 2) := by decide +kernel
theorem dX0_init_14 : decode cX0_init 14 = .ok (.putfield 15, 3) := by decide +kernel
theorem dX0_init_17 : decode cX0_init 17 = .ok (.aload_n 0, 1) := by decide +kernel
theorem dX0_init_18 : decode cX0_init 18 = .ok (.bipush 64, 2) := by decide +kernel
theorem dX0_init_20 : decode cX0_init 20 = .ok (.newarray .int, 2) := by decide +kernel
theorem dX0_init_22 : decode cX0_init 22 = .ok (.putfield 19, 3) := by decide +kernel
theorem dX0_init_25 : decode cX0_init 25 = .ok (.aload_n 0, 1) := by decide +kernel
theorem dX0_init_26 : decode cX0_init 26 = .ok (.iconst 5, 1) := by decide +kernel
theorem dX0_init_27 : decode cX0_init 27 = .ok (.newarray .int, 2) := by decide +kernel
theorem dX0_init_29 : decode cX0_init 29 = .ok (.putfield 22, 3) := by decide +kernel
theorem dX0_init_32 : decode cX0_init 32 = .ok (.aload_n 0, 1) := by decide +kernel
theorem dX0_init_33 : decode cX0_init 33 = .ok (.bipush 10, 2) := by decide +kernel
theorem dX0_init_35 : decode cX0_init 35 = .ok (.newarray .int, 2) := by decide +kernel
theorem dX0_init_37 : decode cX0_init 37 = .ok (.putfield 25, 3) := by decide +kernel
theorem dX0_init_40 : decode cX0_init 40 = .ok (.aload_n 0, 1) := by decide +kernel
theorem dX0_init_41 : decode cX0_init 41 = .ok (.bipush 10, 2) := by decide +kernel
theorem dX0_init_43 : decode cX0_init 43 = .ok (.newarray .int, 2) := by decide +kernel
theorem dX0_init_45 : decode cX0_init 45 = .ok (.putfield 28, 3) := by decide +kernel
theorem dX0_init_48 : decode cX0_init 48 = .ok (.aload_n 0, 1) := by decide +kernel
theorem dX0_init_49 : decode cX0_init 49 = .ok (.bipush 10, 2) := by decide +kernel
theorem dX0_init_51 : decode cX0_init 51 = .ok (.newarray .int, 2) := by decide +kernel
theorem dX0_init_53 : decode cX0_init 53 = .ok (.putfield 31, 3) := by decide +kernel
theorem dX0_init_56 : decode cX0_init 56 = .ok (.return_, 1) := by decide +kernel
set_option maxHeartbeats 4000000 in
set_option maxRecDepth 100000 in
theorem c_X0_init (l : Launch) (G : GG) (h0 : Nat) (sz : Nat) : wMet l yX0_init cX0_init 1 none 2 6 163 G (fl [[(h0, .inr (4, [.int (0 : Int32), .null, .null, .null, .null, .null, .null]))]]) [.ref h0] sz (fun u : Nat × Nat × Nat × Nat × Nat × Nat => none) (fun u : Nat × Nat × Nat × Nat × Nat × Nat => True) (fun u : Nat × Nat × Nat × Nat × Nat × Nat => fl [wAu G h0 u.1 u.2.1 u.2.2.1 u.2.2.2.1 u.2.2.2.2.1 u.2.2.2.2.2 auZ]) := by
  refine w_start (by decide +kernel) (Nat.le_of_ble_eq_true rfl) ?_
  intro p e s m below meth c A hx hb hr hml hts hown hlk hin hP hD hA hK hST ls hl
  have hS : va_S A s.heap s.heap [] := va_S.rf
  have hown : s.vm.findClass RX0 = some m.cls := hown
  have hl : lv_has ls 1 [(0, .ref h0)] := hl
  refine lv_aload_n hx hb dX0_init_0 rfl (lv_at hl 0 rfl) ?_
  refine W.objInit hx hb hown (hts _ u_1000) (hts _ u_105) (hts _ u_106) rfl (by rw [hml]; exact hl.1) rfl dX0_init_1 (Nat.le_of_ble_eq_true rfl) (Nat.le_of_ble_eq_true rfl) ?_
  refine W.eq (g2 := F0 m 4 ls []) rfl ?_
  refine lv_aload_n hx hb dX0_init_4 rfl (lv_at hl 0 rfl) ?_
  refine lv_iconst (v := (0 : Int32)) hx hb dX0_init_5 (by decide) ?_
  refine va_put (D := G.1) (ci := 4) (v := .int (0 : Int32)) (ty := .int) (C := RX0) (T := TX0) (N := 7) hx hb hts uws_X0 tyX0 tyX0_ok nmX0 hown hK hP hD hS 0 rfl rfl 0 (by decide) (hts _ u_1001) (fun _ h9 => h9) rfl (by decide +kernel) rfl rfl (Nat.le_of_ble_eq_true rfl) dX0_init_6 (fun H locs hP hD hS => ?_)
  have hP : va_P G.1 vwCl (fl [[(h0, .inr (4, [.int (0 : Int32), .null, .null, .null, .null, .null, .null]))]]) H := hP
  have hD : va_D A (fl [[(h0, .inr (4, [.int (0 : Int32), .null, .null, .null, .null, .null, .null]))]]) := hD
  refine lv_aload_n hx hb dX0_init_9 rfl (lv_at hl 0 rfl) ?_
  refine lv_bipush (v := (64 : Int32)) hx hb dX0_init_10 (by decide) ?_
  refine w_newI (N := 64) hx hb (hts _ u_958) hK hP hD hS hA (by decide) (by decide) (by decide) (Nat.le_of_ble_eq_true rfl) (Nat.le_of_ble_eq_true rfl) dX0_init_12 (fun q_1 H hP hD hS => ?_)
  have hP : va_P G.1 vwCl (fl [[(h0, .inr (4, [.int (0 : Int32), .null, .null, .null, .null, .null, .null]))], [cArr G q_1 64 (fun _ => 0)]]) H := hP
  have hD : va_D A (fl [[(h0, .inr (4, [.int (0 : Int32), .null, .null, .null, .null, .null, .null]))], [cArr G q_1 64 (fun _ => 0)]]) := hD
  refine va_putF (D := G.1) (ci := 4) (v := .ref q_1) (ty := .array .int) (C := RX0) (T := TX0) (N := 7) hx hb hts uws_X0 tyX0 tyX0_ok nmX0 hown hK hP hD hS 0 rfl rfl 1 (by decide) (hts _ u_1003) (fun _ h9 => h9) rfl hin rfl (by decide +kernel) rfl rfl (Nat.le_of_ble_eq_true rfl) dX0_init_14 (fun H locs hP hD hS => ?_)
  have hP : va_P G.1 vwCl (fl [[(h0, .inr (4, [.int (0 : Int32), .ref q_1, .null, .null, .null, .null, .null]))], [cArr G q_1 64 (fun _ => 0)]]) H := hP
  have hD : va_D A (fl [[(h0, .inr (4, [.int (0 : Int32), .ref q_1, .null, .null, .null, .null, .null]))], [cArr G q_1 64 (fun _ => 0)]]) := hD
  refine lv_aload_n hx hb dX0_init_17 rfl (lv_at hl 0 rfl) ?_
  refine lv_bipush (v := (64 : Int32)) hx hb dX0_init_18 (by decide) ?_
  refine w_newI (N := 64) hx hb (hts _ u_958) hK hP hD hS hA (by decide) (by decide) (by decide) (Nat.le_of_ble_eq_true rfl) (Nat.le_of_ble_eq_true rfl) dX0_init_20 (fun q_2 H hP hD hS => ?_)
  have hP : va_P G.1 vwCl (fl [[(h0, .inr (4, [.int (0 : Int32), .ref q_1, .null, .null, .null, .null, .null]))], [cArr G q_1 64 (fun _ => 0)], [cArr G q_2 64 (fun _ => 0)]]) H := hP
  have hD : va_D A (fl [[(h0, .inr (4, [.int (0 : Int32), .ref q_1, .null, .null, .null, .null, .null]))], [cArr G q_1 64 (fun _ => 0)], [cArr G q_2 64 (fun _ => 0)]]) := hD
  refine va_putF (D := G.1) (ci := 4) (v := .ref q_2) (ty := .array .int) (C := RX0) (T := TX0) (N := 7) hx hb hts uws_X0 tyX0 tyX0_ok nmX0 hown hK hP hD hS 0 rfl rfl 2 (by decide) (hts _ u_1004) (fun _ h9 => h9) rfl hin rfl (by decide +kernel) rfl rfl (Nat.le_of_ble_eq_true rfl) dX0_init_22 (fun H locs hP hD hS => ?_)
  have hP : va_P G.1 vwCl (fl [[(h0, .inr (4, [.int (0 : Int32), .ref q_1, .ref q_2, .null, .null, .null, .null]))], [cArr G q_1 64 (fun _ => 0)], [cArr G q_2 64 (fun _ => 0)]]) H := hP
  have hD : va_D A (fl [[(h0, .inr (4, [.int (0 : Int32), .ref q_1, .ref q_2, .null, .null, .null, .null]))], [cArr G q_1 64 (fun _ => 0)], [cArr G q_2 64 (fun _ => 0)]]) := hD
  refine lv_aload_n hx hb dX0_init_25 rfl (lv_at hl 0 rfl) ?_
  refine lv_iconst (v := (5 : Int32)) hx hb dX0_init_26 (by decide) ?_
  refine w_newI (N := 5) hx hb (hts _ u_958) hK hP hD hS hA (by decide) (by decide) (by decide) (Nat.le_of_ble_eq_true rfl) (Nat.le_of_ble_eq_true rfl) dX0_init_27 (fun q_3 H hP hD hS => ?_)
  have hP : va_P G.1 vwCl (fl [[(h0, .inr (4, [.int (0 : Int32), .ref q_1, .ref q_2, .null, .null, .null, .null]))], [cArr G q_1 64 (fun _ => 0)], [cArr G q_2 64 (fun _ => 0)], [cArr G q_3 5 (fun _ => 0)]]) H := hP
  have hD : va_D A (fl [[(h0, .inr (4, [.int (0 : Int32), .ref q_1, .ref q_2, .null, .null, .null, .null]))], [cArr G q_1 64 (fun _ => 0)], [cArr G q_2 64 (fun _ => 0)], [cArr G q_3 5 (fun _ => 0)]]) := hD
  refine va_putF (D := G.1) (ci := 4) (v := .ref q_3) (ty := .array .int) (C := RX0) (T := TX0) (N := 7) hx hb hts uws_X0 tyX0 tyX0_ok nmX0 hown hK hP hD hS 0 rfl rfl 3 (by decide) (hts _ u_1005) (fun _ h9 => h9) rfl hin rfl (by decide +kernel) rfl rfl (Nat.le_of_ble_eq_true rfl) dX0_init_29 (fun H locs hP hD hS => ?_)
  have hP : va_P G.1 vwCl (fl [[(h0, .inr (4, [.int (0 : Int32), .ref q_1, .ref q_2, .ref q_3, .null, .null, .null]))], [cArr G q_1 64 (fun _ => 0)], [cArr G q_2 64 (fun _ => 0)], [cArr G q_3 5 (fun _ => 0)]]) H := hP
  have hD : va_D A (fl [[(h0, .inr (4, [.int (0 : Int32), .ref q_1, .ref q_2, .ref q_3, .null, .null, .null]))], [cArr G q_1 64 (fun _ => 0)], [cArr G q_2 64 (fun _ => 0)], [cArr G q_3 5 (fun _ => 0)]]) := hD
  refine lv_aload_n hx hb dX0_init_32 rfl (lv_at hl 0 rfl) ?_
  refine lv_bipush (v := (10 : Int32)) hx hb dX0_init_33 (by decide) ?_
  refine w_newI (N := 10) hx hb (hts _ u_958) hK hP hD hS hA (by decide) (by decide) (by decide) (Nat.le_of_ble_eq_true rfl) (Nat.le_of_ble_eq_true rfl) dX0_init_35 (fun q_4 H hP hD hS => ?_)
  have hP : va_P G.1 vwCl (fl [[(h0, .inr (4, [.int (0 : Int32), .ref q_1, .ref q_2, .ref q_3, .null, .null, .null]))], [cArr G q_1 64 (fun _ => 0)], [cArr G q_2 64 (fun _ => 0)], [cArr G q_3 5 (fun _ => 0)], [cArr G q_4 10 (fun _ => 0)]]) H := hP
  have hD : va_D A (fl [[(h0, .inr (4, [.int (0 : Int32), .ref q_1, .ref q_2, .ref q_3, .null, .null, .null]))], [cArr G q_1 64 (fun _ => 0)], [cArr G q_2 64 (fun _ => 0)], [cArr G q_3 5 (fun _ => 0)], [cArr G q_4 10 (fun _ => 0)]]) := hD
  refine va_putF (D := G.1) (ci := 4) (v := .ref q_4) (ty := .array .int) (C := RX0) (T := TX0) (N := 7) hx hb hts uws_X0 tyX0 tyX0_ok nmX0 hown hK hP hD hS 0 rfl rfl 4 (by decide) (hts _ u_1006) (fun _ h9 => h9) rfl hin rfl (by decide +kernel) rfl rfl (Nat.le_of_ble_eq_true rfl) dX0_init_37 (fun H locs hP hD hS => ?_)
  have hP : va_P G.1 vwCl (fl [[(h0, .inr (4, [.int (0 : Int32), .ref q_1, .ref q_2, .ref q_3, .ref q_4, .null, .null]))], [cArr G q_1 64 (fun _ => 0)], [cArr G q_2 64 (fun _ => 0)], [cArr G q_3 5 (fun _ => 0)], [cArr G q_4 10 (fun _ => 0)]]) H := hP
  have hD : va_D A (fl [[(h0, .inr (4, [.int (0 : Int32), .ref q_1, .ref q_2, .ref q_3, .ref q_4, .null, .null]))], [cArr G q_1 64 (fun _ => 0)], [cArr G q_2 64 (fun _ => 0)], [cArr G q_3 5 (fun _ => 0)], [cArr G q_4 10 (fun _ => 0)]]) := hD
  refine lv_aload_n hx hb dX0_init_40 rfl (lv_at hl 0 rfl) ?_
  refine lv_bipush (v := (10 : Int32)) hx hb dX0_init_41 (by decide) ?_
  refine w_newI (N := 10) hx hb (hts _ u_958) hK hP hD hS hA (by decide) (by decide) (by decide) (Nat.le_of_ble_eq_true rfl) (Nat.le_of_ble_eq_true rfl) dX0_init_43 (fun q_5 H hP hD hS => ?_)
  have hP : va_P G.1 vwCl (fl [[(h0, .inr (4, [.int (0 : Int32), .ref q_1, .ref q_2, .ref q_3, .ref q_4, .null, .null]))], [cArr G q_1 64 (fun _ => 0)], [cArr G q_2 64 (fun _ => 0)], [cArr G q_3 5 (fun _ => 0)], [cArr G q_4 10 (fun _ => 0)], [cArr G q_5 10 (fun _ => 0)]]) H := hP
  have hD : va_D A (fl [[(h0, .inr (4, [.int (0 : Int32), .ref q_1, .ref q_2, .ref q_3, .ref q_4, .null, .null]))], [cArr G q_1 64 (fun _ => 0)], [cArr G q_2 64 (fun _ => 0)], [cArr G q_3 5 (fun _ => 0)], [cArr G q_4 10 (fun _ => 0)], [cArr G q_5 10 (fun _ => 0)]]) := hD
  refine va_putF (D := G.1) (ci := 4) (v := .ref q_5) (ty := .array .int) (C := RX0) (T := TX0) (N := 7) hx hb hts uws_X0 tyX0 tyX0_ok nmX0 hown hK hP hD hS 0 rfl rfl 5 (by decide) (hts _ u_1007) (fun _ h9 => h9) rfl hin rfl (by decide +kernel) rfl rfl (Nat.le_of_ble_eq_true rfl) dX0_init_45 (fun H locs hP hD hS => ?_)
  have hP : va_P G.1 vwCl (fl [[(h0, .inr (4, [.int (0 : Int32), .ref q_1, .ref q_2, .ref q_3, .ref q_4, .ref q_5, .null]))], [cArr G q_1 64 (fun _ => 0)], [cArr G q_2 64 (fun _ => 0)], [cArr G q_3 5 (fun _ => 0)], [cArr G q_4 10 (fun _ => 0)], [cArr G q_5 10 (fun _ => 0)]]) H := hP
  have hD : va_D A (fl [[(h0, .inr (4, [.int (0 : Int32), .ref q_1, .ref q_2, .ref q_3, .ref q_4, .ref q_5, .null]))], [cArr G q_1 64 (fun _ => 0)], [cArr G q_2 64 (fun _ => 0)], [cArr G q_3 5 (fun _ => 0)], [cArr G q_4 10 (fun _ => 0)], [cArr G q_5 10 (fun _ => 0)]]) := hD
  refine lv_aload_n hx hb dX0_init_48 rfl (lv_at hl 0 rfl) ?_
  refine lv_bipush (v := (10 : Int32)) hx hb dX0_init_49 (by decide) ?_
  refine w_newI (N := 10) hx hb (hts _ u_958) hK hP hD hS hA (by decide) (by decide) (by decide) (Nat.le_of_ble_eq_true rfl) (Nat.le_of_ble_eq_true rfl) dX0_init_51 (fun q_6 H hP hD hS => ?_)
  have hP : va_P G.1 vwCl (fl [[(h0, .inr (4, [.int (0 : Int32), .ref q_1, .ref q_2, .ref q_3, .ref q_4, .ref q_5, .null]))], [cArr G q_1 64 (fun _ => 0)], [cArr G q_2 64 (fun _ => 0)], [cArr G q_3 5 (fun _ => 0)], [cArr G q_4 10 (fun _ => 0)], [cArr G q_5 10 (fun _ => 0)], [cArr G q_6 10 (fun _ => 0)]]) H := hP
  have hD : va_D A (fl [[(h0, .inr (4, [.int (0 : Int32), .ref q_1, .ref q_2, .ref q_3, .ref q_4, .ref q_5, .null]))], [cArr G q_1 64 (fun _ => 0)], [cArr G q_2 64 (fun _ => 0)], [cArr G q_3 5 (fun _ => 0)], [cArr G q_4 10 (fun _ => 0)], [cArr G q_5 10 (fun _ => 0)], [cArr G q_6 10 (fun _ => 0)]]) := hD
  refine va_putF (D := G.1) (ci := 4) (v := .ref q_6) (ty := .array .int) (C := RX0) (T := TX0) (N := 7) hx hb hts uws_X0 tyX0 tyX0_ok nmX0 hown hK hP hD hS 0 rfl rfl 6 (by decide) (hts _ u_1008) (fun _ h9 => h9) rfl hin rfl (by decide +kernel) rfl rfl (Nat.le_of_ble_eq_true rfl) dX0_init_53 (fun H locs hP hD hS => ?_)
  have hP : va_P G.1 vwCl (fl [[(h0, .inr (4, [.int (0 : Int32), .ref q_1, .ref q_2, .ref q_3, .ref q_4, .ref q_5, .ref q_6]))], [cArr G q_1 64 (fun _ => 0)], [cArr G q_2 64 (fun _ => 0)], [cArr G q_3 5 (fun _ => 0)], [cArr G q_4 10 (fun _ => 0)], [cArr G q_5 10 (fun _ => 0)], [cArr G q_6 10 (fun _ => 0)]]) H := hP
  have hD : va_D A (fl [[(h0, .inr (4, [.int (0 : Int32), .ref q_1, .ref q_2, .ref q_3, .ref q_4, .ref q_5, .ref q_6]))], [cArr G q_1 64 (fun _ => 0)], [cArr G q_2 64 (fun _ => 0)], [cArr G q_3 5 (fun _ => 0)], [cArr G q_4 10 (fun _ => 0)], [cArr G q_5 10 (fun _ => 0)], [cArr G q_6 10 (fun _ => 0)]]) := hD
  exact w_retV (u := (q_1, q_2, q_3, q_4, q_5, q_6)) hx hb hr hlk hS rfl trivial hP hD (Nat.le_of_ble_eq_true rfl) (Nat.le_of_ble_eq_true rfl) dX0_init_56
