theorem dX8_init_0 : decode cX8_init 0 = .ok (.aload_n 0, 1) := by decide +kernel
theorem dX8_init_1 : decode cX8_init 1 = .ok (.invokespecial 3, 3) := by decide +kernel
theorem u_934 : Cond.methodLink RX8 3 ⟨"java/lang/Object", "<init>", "()V"⟩ ∈ UW := uw 934 (by decide +kernel) rfl
theorem dX8_init_4 : decode cX8_init 4 = .ok (.aload_n 0, 1) := by decide +kernel
theorem dX8_init_5 : decode cX8_init 5 = .ok (.iconst 0, 1) := by decide +kernel
theorem dX8_init_6 : decode cX8_init 6 = .ok (.putfield 9, 3) := by decide +kernel
theorem dX8_init_9 : decode cX8_init 9 = .ok (.aload_n 0, 1) := by decide +kernel
theorem dX8_init_10 : decode cX8_init 10 = .ok (.bipush 29, 2) := by decide +kernel
theorem dX8_init_12 : decode cX8_init 12 = .ok (.putfield 15, 3) := by decide +kernel
theorem dX8_init_15 : decode cX8_init 15 = .ok (.aload_n 0, 1) := by decide +kernel
theorem dX8_init_16 : decode cX8_init 16 = .ok (.new 18, 3) := by decide +kernel
theorem u_935 : Cond.classLink RX8 18 RX2 ∈ UW := uw 935 (by decide +kernel) rfl
theorem u_502 : Cond.instantiable RX2 5 ∈ UW := uw 502 (by decide +kernel) rfl
theorem dX8_init_19 : decode cX8_init 19 = .ok (.dup, 1) := by decide +kernel
theorem dX8_init_20 : decode cX8_init 20 = .ok (.invokespecial 20, 3) := by decide +kernel
theorem u_938 : Cond.code yX2_init cX2_init 1 none ∈ UW := uw 938 (by decide +kernel) rfl
theorem u_937 : Cond.instanceMethod yX2_init ∈ UW := uw 937 (by decide +kernel) rfl
theorem hds_X2_init : yX2_init.cls ≠ "java/lang/invoke/MethodHandle" ∧ yX2_init.cls ≠ "java/lang/invoke/VarHandle" ∧ (parseMethodDescriptor yX2_init.desc).map (fun d => d.parameters.length) = some 0 := by decide +kernel
theorem gN_X8_20 : Cond.methodLinkNest RX8 20 yX2_init "MoonlitDoors" ∈ MW := mw 936 (by decide +kernel) rfl
theorem dX8_init_23 : decode cX8_init 23 = .ok (.putfield 21, 3) := by decide +kernel
theorem dX8_init_26 : decode cX8_init 26 = .ok (.aload_n 0, 1) := by decide +kernel
theorem dX8_init_27 : decode cX8_init 27 = .ok (.new 25, 3) := by decide +kernel
theorem u_959 : Cond.classLink RX8 25 RX1 ∈ UW := uw 959 (by decide +kernel) rfl
theorem u_695 : Cond.instantiable RX1 4 ∈ UW := uw 695 (by decide +kernel) rfl
theorem dX8_init_30 : decode cX8_init 30 = .ok (.dup, 1) := by decide +kernel
theorem dX8_init_31 : decode cX8_init 31 = .ok (.invokespecial 27, 3) := by decide +kernel
theorem u_962 : Cond.code yX1_init cX1_init 1 none ∈ UW := uw 962 (by decide +kernel) rfl
theorem u_961 : Cond.instanceMethod yX1_init ∈ UW := uw 961 (by decide +kernel) rfl
theorem hds_X1_init : yX1_init.cls ≠ "java/lang/invoke/MethodHandle" ∧ yX1_init.cls ≠ "java/lang/invoke/VarHandle" ∧ (parseMethodDescriptor yX1_init.desc).map (fun d => d.parameters.length) = some 0 := by decide +kernel
theorem gN_X8_27 : Cond.methodLinkNest RX8 27 yX1_init "MoonlitDoors" ∈ MW := mw 960 (by decide +kernel) rfl
theorem dX8_init_34 : decode cX8_init 34 = .ok (.putfield 28, 3) := by decide +kernel
theorem dX8_init_37 : decode cX8_init 37 = .ok (.aload_n 0, 1) := by decide +kernel
theorem dX8_init_38 : decode cX8_init 38 = .ok (.new 32, 3) := by decide +kernel
theorem u_979 : Cond.classLink RX8 32 RX5 ∈ UW := uw 979 (by decide +kernel) rfl
theorem u_803 : Cond.instantiable RX5 3 ∈ UW := uw 803 (by decide +kernel) rfl
theorem dX8_init_41 : decode cX8_init 41 = .ok (.dup, 1) := by decide +kernel
theorem dX8_init_42 : decode cX8_init 42 = .ok (.invokespecial 34, 3) := by decide +kernel
theorem u_982 : Cond.code yX5_init cX5_init 1 none ∈ UW := uw 982 (by decide +kernel) rfl
theorem u_981 : Cond.instanceMethod yX5_init ∈ UW := uw 981 (by decide +kernel) rfl
theorem hds_X5_init : yX5_init.cls ≠ "java/lang/invoke/MethodHandle" ∧ yX5_init.cls ≠ "java/lang/invoke/VarHandle" ∧ (parseMethodDescriptor yX5_init.desc).map (fun d => d.parameters.length) = some 0 := by decide +kernel
theorem gN_X8_34 : Cond.methodLinkNest RX8 34 yX5_init "MoonlitDoors" ∈ MW := mw 980 (by decide +kernel) rfl
theorem dX8_init_45 : decode cX8_init 45 = .ok (.putfield 35, 3) := by decide +kernel
theorem dX8_init_48 : decode cX8_init 48 = .ok (.aload_n 0, 1) := by decide +kernel
theorem dX8_init_49 : decode cX8_init 49 = .ok (.new 39, 3) := by decide +kernel
theorem u_995 : Cond.classLink RX8 39 RX0 ∈ UW := uw 995 (by decide +kernel) rfl
theorem u_996 : Cond.instantiable RX0 7 ∈ UW := uw 996 (by decide +kernel) rfl
theorem dX8_init_52 : decode cX8_init 52 = .ok (.dup, 1) := by decide +kernel
theorem dX8_init_53 : decode cX8_init 53 = .ok (.invokespecial 41, 3) := by decide +kernel
theorem u_999 : Cond.code yX0_init cX0_init 1 none ∈ UW := uw 999 (by decide +kernel) rfl
theorem u_998 : Cond.instanceMethod yX0_init ∈ UW := uw 998 (by decide +kernel) rfl
theorem hds_X0_init : yX0_init.cls ≠ "java/lang/invoke/MethodHandle" ∧ yX0_init.cls ≠ "java/lang/invoke/VarHandle" ∧ (parseMethodDescriptor yX0_init.desc).map (fun d => d.parameters.length) = some 0 := by decide +kernel
theorem gN_X8_41 : Cond.methodLinkNest RX8 41 yX0_init "MoonlitDoors" ∈ MW := mw 997 (by decide +kernel) rfl
theorem dX8_init_56 : decode cX8_init 56 = .ok (.putfield 42, 3) := by decide +kernel
theorem dX8_init_59 : decode cX8_init 59 = .ok (.return_, 1) := by decide +kernel
set_option maxHeartbeats 4000000 in
set_option maxRecDepth 100000 in
theorem c_X8_init (l : Launch) (G : GG) (h0 : Nat) (sz : Nat) : wMet l yX8_init cX8_init 1 none 3 19 262 G (fl [[(h0, .inr (10, [.int (0 : Int32), .int (0 : Int32), .null, .null, .null, .null]))]]) [.ref h0] sz (fun u : Nat → Nat => none) (fun u : Nat → Nat => u 0 = h0) (fun u : Nat → Nat => fl [wSt G u stZ]) := by
  refine w_start (by decide +kernel) (Nat.le_of_ble_eq_true rfl) ?_
  intro p e s m below meth c A hx hb hr hml hts hown hlk hin hP hD hA hK hST ls hl
  have hS : va_S A s.heap s.heap [] := va_S.rf
  have hown : s.vm.findClass RX8 = some m.cls := hown
  have hl : lv_has ls 1 [(0, .ref h0)] := hl
  refine lv_aload_n hx hb dX8_init_0 rfl (lv_at hl 0 rfl) ?_
  refine W.objInit hx hb hown (hts _ u_934) (hts _ u_105) (hts _ u_106) rfl (by rw [hml]; exact hl.1) rfl dX8_init_1 (Nat.le_of_ble_eq_true rfl) (Nat.le_of_ble_eq_true rfl) ?_
  refine W.eq (g2 := F0 m 4 ls []) rfl ?_
  refine lv_aload_n hx hb dX8_init_4 rfl (lv_at hl 0 rfl) ?_
  refine lv_iconst (v := (0 : Int32)) hx hb dX8_init_5 (by decide) ?_
  refine va_put (D := G.1) (ci := 10) (v := .int (0 : Int32)) (ty := .int) (C := RX8) (T := TX8) (N := 6) hx hb hts uws_X8 tyX8 tyX8_ok nmX8 hown hK hP hD hS 0 rfl rfl 0 (by decide) (hts _ u_1024) (fun _ h9 => h9) rfl (by decide +kernel) rfl rfl (Nat.le_of_ble_eq_true rfl) dX8_init_6 (fun H locs hP hD hS => ?_)
  have hP : va_P G.1 vwCl (fl [[(h0, .inr (10, [.int (0 : Int32), .int (0 : Int32), .null, .null, .null, .null]))]]) H := hP
  have hD : va_D A (fl [[(h0, .inr (10, [.int (0 : Int32), .int (0 : Int32), .null, .null, .null, .null]))]]) := hD
  refine lv_aload_n hx hb dX8_init_9 rfl (lv_at hl 0 rfl) ?_
  refine lv_bipush (v := (29 : Int32)) hx hb dX8_init_10 (by decide) ?_
  refine va_put (D := G.1) (ci := 10) (v := .int (29 : Int32)) (ty := .int) (C := RX8) (T := TX8) (N := 6) hx hb hts uws_X8 tyX8 tyX8_ok nmX8 hown hK hP hD hS 0 rfl rfl 1 (by decide) (hts _ u_1026) (fun _ h9 => h9) rfl (by decide +kernel) rfl rfl (Nat.le_of_ble_eq_true rfl) dX8_init_12 (fun H locs hP hD hS => ?_)
  have hP : va_P G.1 vwCl (fl [[(h0, .inr (10, [.int (0 : Int32), .int (29 : Int32), .null, .null, .null, .null]))]]) H := hP
  have hD : va_D A (fl [[(h0, .inr (10, [.int (0 : Int32), .int (29 : Int32), .null, .null, .null, .null]))]]) := hD
  refine lv_aload_n hx hb dX8_init_15 rfl (lv_at hl 0 rfl) ?_
  refine w_newO (own := RX8) (C := RX2) (T := TX2) (N := 5) (ci := 6) (fs := [.int (0 : Int32), .null, .null, .null, .null]) hx hb hts uws_X2 tyX2 tyX2_ok hown (hts _ u_935) (hts _ u_502) (hts _ u_23) hK hP hD hS hA rfl (fun j hj => by rcases (show j = 0 ∨ j = 1 ∨ j = 2 ∨ j = 3 ∨ j = 4 by omega) with rfl | rfl | rfl | rfl | rfl <;> rfl) (Nat.le_of_ble_eq_true rfl) (Nat.le_of_ble_eq_true rfl) dX8_init_16 (fun q_1 H hP hD hS => ?_)
  have hP : va_P G.1 vwCl (fl [[(h0, .inr (10, [.int (0 : Int32), .int (29 : Int32), .null, .null, .null, .null]))], [(q_1, .inr (6, [.int (0 : Int32), .null, .null, .null, .null]))]]) H := hP
  have hD : va_D A (fl [[(h0, .inr (10, [.int (0 : Int32), .int (29 : Int32), .null, .null, .null, .null]))], [(q_1, .inr (6, [.int (0 : Int32), .null, .null, .null, .null]))]]) := hD
  refine lv_dup hx hb dX8_init_19 rfl ?_
  refine w_IN (own := RX8) (cs := [[(q_1, .inr (6, [.int (0 : Int32), .null, .null, .null, .null]))]]) (rs := [[(h0, .inr (10, [.int (0 : Int32), .int (29 : Int32), .null, .null, .null, .null]))]]) (As := []) (rest := [.ref q_1, .ref h0]) (c_X2_init l G q_1 H.size) ⟨hx, hb, hml, hown, hts⟩ (hST.mw gN_X8_20) u_938 u_23 u_937 rfl hds_X2_init hK hST hS hP hD hA [1] [0] rfl rfl rfl ⟨Nat.le_of_ble_eq_true rfl, Nat.le_of_ble_eq_true rfl⟩ ⟨Nat.le_of_ble_eq_true rfl, Nat.le_of_ble_eq_true rfl⟩ rfl hl.1 rfl (Nat.le_of_ble_eq_true rfl) dX8_init_20 (fun uu_2 H locs huu hP hD hS => ?_)
  have hP : va_P G.1 vwCl (fl [wDo G q_1 uu_2.1 uu_2.2.1 uu_2.2.2.1 uu_2.2.2.2 doZ, [(h0, .inr (10, [.int (0 : Int32), .int (29 : Int32), .null, .null, .null, .null]))]]) H := hP
  have hD : va_D A (fl [wDo G q_1 uu_2.1 uu_2.2.1 uu_2.2.2.1 uu_2.2.2.2 doZ, [(h0, .inr (10, [.int (0 : Int32), .int (29 : Int32), .null, .null, .null, .null]))]]) := hD
  refine W.eq (g2 := F0 m 23 ls [.ref q_1, .ref h0]) rfl ?_
  refine va_putF (D := G.1) (ci := 10) (v := .ref q_1) (ty := .object "MoonlitDoors$Doors") (C := RX8) (T := TX8) (N := 6) hx hb hts uws_X8 tyX8 tyX8_ok nmX8 hown hK hP hD hS 5 rfl rfl 2 (by decide) (hts _ u_1027) (fun _ h9 => h9) rfl hin rfl (by decide +kernel) rfl rfl (Nat.le_of_ble_eq_true rfl) dX8_init_23 (fun H locs hP hD hS => ?_)
  have hP : va_P G.1 vwCl (fl [wDo G q_1 uu_2.1 uu_2.2.1 uu_2.2.2.1 uu_2.2.2.2 doZ, [(h0, .inr (10, [.int (0 : Int32), .int (29 : Int32), .ref q_1, .null, .null, .null]))]]) H := hP
  have hD : va_D A (fl [wDo G q_1 uu_2.1 uu_2.2.1 uu_2.2.2.1 uu_2.2.2.2 doZ, [(h0, .inr (10, [.int (0 : Int32), .int (29 : Int32), .ref q_1, .null, .null, .null]))]]) := hD
  refine lv_aload_n hx hb dX8_init_26 rfl (lv_at hl 0 rfl) ?_
  refine w_newO (own := RX8) (C := RX1) (T := TX1) (N := 4) (ci := 5) (fs := [.int (0 : Int32), .null, .null, .null]) hx hb hts uws_X1 tyX1 tyX1_ok hown (hts _ u_959) (hts _ u_695) (hts _ u_24) hK hP hD hS hA rfl (fun j hj => by rcases (show j = 0 ∨ j = 1 ∨ j = 2 ∨ j = 3 by omega) with rfl | rfl | rfl | rfl <;> rfl) (Nat.le_of_ble_eq_true rfl) (Nat.le_of_ble_eq_true rfl) dX8_init_27 (fun q_3 H hP hD hS => ?_)
  have hP : va_P G.1 vwCl (fl [wDo G q_1 uu_2.1 uu_2.2.1 uu_2.2.2.1 uu_2.2.2.2 doZ, [(h0, .inr (10, [.int (0 : Int32), .int (29 : Int32), .ref q_1, .null, .null, .null]))], [(q_3, .inr (5, [.int (0 : Int32), .null, .null, .null]))]]) H := hP
  have hD : va_D A (fl [wDo G q_1 uu_2.1 uu_2.2.1 uu_2.2.2.1 uu_2.2.2.2 doZ, [(h0, .inr (10, [.int (0 : Int32), .int (29 : Int32), .ref q_1, .null, .null, .null]))], [(q_3, .inr (5, [.int (0 : Int32), .null, .null, .null]))]]) := hD
  refine lv_dup hx hb dX8_init_30 rfl ?_
  refine w_IN (own := RX8) (cs := [[(q_3, .inr (5, [.int (0 : Int32), .null, .null, .null]))]]) (rs := [wDo G q_1 uu_2.1 uu_2.2.1 uu_2.2.2.1 uu_2.2.2.2 doZ, [(h0, .inr (10, [.int (0 : Int32), .int (29 : Int32), .ref q_1, .null, .null, .null]))]]) (As := []) (rest := [.ref q_3, .ref h0]) (c_X1_init l G q_3 H.size) ⟨hx, hb, hml, hown, hts⟩ (hST.mw gN_X8_27) u_962 u_24 u_961 rfl hds_X1_init hK hST hS hP hD hA [2] [0, 1] rfl rfl rfl ⟨Nat.le_of_ble_eq_true rfl, Nat.le_of_ble_eq_true rfl⟩ ⟨Nat.le_of_ble_eq_true rfl, Nat.le_of_ble_eq_true rfl⟩ rfl hl.1 rfl (Nat.le_of_ble_eq_true rfl) dX8_init_31 (fun uu_4 H locs huu hP hD hS => ?_)
  have hP : va_P G.1 vwCl (fl [wEx G q_3 uu_4.1 uu_4.2.1 uu_4.2.2 exZ, wDo G q_1 uu_2.1 uu_2.2.1 uu_2.2.2.1 uu_2.2.2.2 doZ, [(h0, .inr (10, [.int (0 : Int32), .int (29 : Int32), .ref q_1, .null, .null, .null]))]]) H := hP
  have hD : va_D A (fl [wEx G q_3 uu_4.1 uu_4.2.1 uu_4.2.2 exZ, wDo G q_1 uu_2.1 uu_2.2.1 uu_2.2.2.1 uu_2.2.2.2 doZ, [(h0, .inr (10, [.int (0 : Int32), .int (29 : Int32), .ref q_1, .null, .null, .null]))]]) := hD
  refine W.eq (g2 := F0 m 34 ls [.ref q_3, .ref h0]) rfl ?_
  refine va_putF (D := G.1) (ci := 10) (v := .ref q_3) (ty := .object "MoonlitDoors$DayExceptions") (C := RX8) (T := TX8) (N := 6) hx hb hts uws_X8 tyX8 tyX8_ok nmX8 hown hK hP hD hS 9 rfl rfl 3 (by decide) (hts _ u_1029) (fun _ h9 => h9) rfl hin rfl (by decide +kernel) rfl rfl (Nat.le_of_ble_eq_true rfl) dX8_init_34 (fun H locs hP hD hS => ?_)
  have hP : va_P G.1 vwCl (fl [wEx G q_3 uu_4.1 uu_4.2.1 uu_4.2.2 exZ, wDo G q_1 uu_2.1 uu_2.2.1 uu_2.2.2.1 uu_2.2.2.2 doZ, [(h0, .inr (10, [.int (0 : Int32), .int (29 : Int32), .ref q_1, .ref q_3, .null, .null]))]]) H := hP
  have hD : va_D A (fl [wEx G q_3 uu_4.1 uu_4.2.1 uu_4.2.2 exZ, wDo G q_1 uu_2.1 uu_2.2.1 uu_2.2.2.1 uu_2.2.2.2 doZ, [(h0, .inr (10, [.int (0 : Int32), .int (29 : Int32), .ref q_1, .ref q_3, .null, .null]))]]) := hD
  refine lv_aload_n hx hb dX8_init_37 rfl (lv_at hl 0 rfl) ?_
  refine w_newO (own := RX8) (C := RX5) (T := TX5) (N := 3) (ci := 8) (fs := [.int (0 : Int32), .null, .null]) hx hb hts uws_X5 tyX5 tyX5_ok hown (hts _ u_979) (hts _ u_803) (hts _ u_25) hK hP hD hS hA rfl (fun j hj => by rcases (show j = 0 ∨ j = 1 ∨ j = 2 by omega) with rfl | rfl | rfl <;> rfl) (Nat.le_of_ble_eq_true rfl) (Nat.le_of_ble_eq_true rfl) dX8_init_38 (fun q_5 H hP hD hS => ?_)
  have hP : va_P G.1 vwCl (fl [wEx G q_3 uu_4.1 uu_4.2.1 uu_4.2.2 exZ, wDo G q_1 uu_2.1 uu_2.2.1 uu_2.2.2.1 uu_2.2.2.2 doZ, [(h0, .inr (10, [.int (0 : Int32), .int (29 : Int32), .ref q_1, .ref q_3, .null, .null]))], [(q_5, .inr (8, [.int (0 : Int32), .null, .null]))]]) H := hP
  have hD : va_D A (fl [wEx G q_3 uu_4.1 uu_4.2.1 uu_4.2.2 exZ, wDo G q_1 uu_2.1 uu_2.2.1 uu_2.2.2.1 uu_2.2.2.2 doZ, [(h0, .inr (10, [.int (0 : Int32), .int (29 : Int32), .ref q_1, .ref q_3, .null, .null]))], [(q_5, .inr (8, [.int (0 : Int32), .null, .null]))]]) := hD
  refine lv_dup hx hb dX8_init_41 rfl ?_
  refine w_IN (own := RX8) (cs := [[(q_5, .inr (8, [.int (0 : Int32), .null, .null]))]]) (rs := [wEx G q_3 uu_4.1 uu_4.2.1 uu_4.2.2 exZ, wDo G q_1 uu_2.1 uu_2.2.1 uu_2.2.2.1 uu_2.2.2.2 doZ, [(h0, .inr (10, [.int (0 : Int32), .int (29 : Int32), .ref q_1, .ref q_3, .null, .null]))]]) (As := []) (rest := [.ref q_5, .ref h0]) (c_X5_init l G q_5 H.size) ⟨hx, hb, hml, hown, hts⟩ (hST.mw gN_X8_34) u_982 u_25 u_981 rfl hds_X5_init hK hST hS hP hD hA [3] [0, 1, 2] rfl rfl rfl ⟨Nat.le_of_ble_eq_true rfl, Nat.le_of_ble_eq_true rfl⟩ ⟨Nat.le_of_ble_eq_true rfl, Nat.le_of_ble_eq_true rfl⟩ rfl hl.1 rfl (Nat.le_of_ble_eq_true rfl) dX8_init_42 (fun uu_6 H locs huu hP hD hS => ?_)
  have hP : va_P G.1 vwCl (fl [wPe G q_5 uu_6.1 uu_6.2 peZ, wEx G q_3 uu_4.1 uu_4.2.1 uu_4.2.2 exZ, wDo G q_1 uu_2.1 uu_2.2.1 uu_2.2.2.1 uu_2.2.2.2 doZ, [(h0, .inr (10, [.int (0 : Int32), .int (29 : Int32), .ref q_1, .ref q_3, .null, .null]))]]) H := hP
  have hD : va_D A (fl [wPe G q_5 uu_6.1 uu_6.2 peZ, wEx G q_3 uu_4.1 uu_4.2.1 uu_4.2.2 exZ, wDo G q_1 uu_2.1 uu_2.2.1 uu_2.2.2.1 uu_2.2.2.2 doZ, [(h0, .inr (10, [.int (0 : Int32), .int (29 : Int32), .ref q_1, .ref q_3, .null, .null]))]]) := hD
  refine W.eq (g2 := F0 m 45 ls [.ref q_5, .ref h0]) rfl ?_
  refine va_putF (D := G.1) (ci := 10) (v := .ref q_5) (ty := .object "MoonlitDoors$Persons") (C := RX8) (T := TX8) (N := 6) hx hb hts uws_X8 tyX8 tyX8_ok nmX8 hown hK hP hD hS 12 rfl rfl 4 (by decide) (hts _ u_1031) (fun _ h9 => h9) rfl hin rfl (by decide +kernel) rfl rfl (Nat.le_of_ble_eq_true rfl) dX8_init_45 (fun H locs hP hD hS => ?_)
  have hP : va_P G.1 vwCl (fl [wPe G q_5 uu_6.1 uu_6.2 peZ, wEx G q_3 uu_4.1 uu_4.2.1 uu_4.2.2 exZ, wDo G q_1 uu_2.1 uu_2.2.1 uu_2.2.2.1 uu_2.2.2.2 doZ, [(h0, .inr (10, [.int (0 : Int32), .int (29 : Int32), .ref q_1, .ref q_3, .ref q_5, .null]))]]) H := hP
  have hD : va_D A (fl [wPe G q_5 uu_6.1 uu_6.2 peZ, wEx G q_3 uu_4.1 uu_4.2.1 uu_4.2.2 exZ, wDo G q_1 uu_2.1 uu_2.2.1 uu_2.2.2.1 uu_2.2.2.2 doZ, [(h0, .inr (10, [.int (0 : Int32), .int (29 : Int32), .ref q_1, .ref q_3, .ref q_5, .null]))]]) := hD
  refine lv_aload_n hx hb dX8_init_48 rfl (lv_at hl 0 rfl) ?_
  refine w_newO (own := RX8) (C := RX0) (T := TX0) (N := 7) (ci := 4) (fs := [.int (0 : Int32), .null, .null, .null, .null, .null, .null]) hx hb hts uws_X0 tyX0 tyX0_ok hown (hts _ u_995) (hts _ u_996) (hts _ u_26) hK hP hD hS hA rfl (fun j hj => by rcases (show j = 0 ∨ j = 1 ∨ j = 2 ∨ j = 3 ∨ j = 4 ∨ j = 5 ∨ j = 6 by omega) with rfl | rfl | rfl | rfl | rfl | rfl | rfl <;> rfl) (Nat.le_of_ble_eq_true rfl) (Nat.le_of_ble_eq_true rfl) dX8_init_49 (fun q_7 H hP hD hS => ?_)
  have hP : va_P G.1 vwCl (fl [wPe G q_5 uu_6.1 uu_6.2 peZ, wEx G q_3 uu_4.1 uu_4.2.1 uu_4.2.2 exZ, wDo G q_1 uu_2.1 uu_2.2.1 uu_2.2.2.1 uu_2.2.2.2 doZ, [(h0, .inr (10, [.int (0 : Int32), .int (29 : Int32), .ref q_1, .ref q_3, .ref q_5, .null]))], [(q_7, .inr (4, [.int (0 : Int32), .null, .null, .null, .null, .null, .null]))]]) H := hP
  have hD : va_D A (fl [wPe G q_5 uu_6.1 uu_6.2 peZ, wEx G q_3 uu_4.1 uu_4.2.1 uu_4.2.2 exZ, wDo G q_1 uu_2.1 uu_2.2.1 uu_2.2.2.1 uu_2.2.2.2 doZ, [(h0, .inr (10, [.int (0 : Int32), .int (29 : Int32), .ref q_1, .ref q_3, .ref q_5, .null]))], [(q_7, .inr (4, [.int (0 : Int32), .null, .null, .null, .null, .null, .null]))]]) := hD
  refine lv_dup hx hb dX8_init_52 rfl ?_
  refine w_IN (own := RX8) (cs := [[(q_7, .inr (4, [.int (0 : Int32), .null, .null, .null, .null, .null, .null]))]]) (rs := [wPe G q_5 uu_6.1 uu_6.2 peZ, wEx G q_3 uu_4.1 uu_4.2.1 uu_4.2.2 exZ, wDo G q_1 uu_2.1 uu_2.2.1 uu_2.2.2.1 uu_2.2.2.2 doZ, [(h0, .inr (10, [.int (0 : Int32), .int (29 : Int32), .ref q_1, .ref q_3, .ref q_5, .null]))]]) (As := []) (rest := [.ref q_7, .ref h0]) (c_X0_init l G q_7 H.size) ⟨hx, hb, hml, hown, hts⟩ (hST.mw gN_X8_41) u_999 u_26 u_998 rfl hds_X0_init hK hST hS hP hD hA [4] [0, 1, 2, 3] rfl rfl rfl ⟨Nat.le_of_ble_eq_true rfl, Nat.le_of_ble_eq_true rfl⟩ ⟨Nat.le_of_ble_eq_true rfl, Nat.le_of_ble_eq_true rfl⟩ rfl hl.1 rfl (Nat.le_of_ble_eq_true rfl) dX8_init_53 (fun uu_8 H locs huu hP hD hS => ?_)
  have hP : va_P G.1 vwCl (fl [wAu G q_7 uu_8.1 uu_8.2.1 uu_8.2.2.1 uu_8.2.2.2.1 uu_8.2.2.2.2.1 uu_8.2.2.2.2.2 auZ, wPe G q_5 uu_6.1 uu_6.2 peZ, wEx G q_3 uu_4.1 uu_4.2.1 uu_4.2.2 exZ, wDo G q_1 uu_2.1 uu_2.2.1 uu_2.2.2.1 uu_2.2.2.2 doZ, [(h0, .inr (10, [.int (0 : Int32), .int (29 : Int32), .ref q_1, .ref q_3, .ref q_5, .null]))]]) H := hP
  have hD : va_D A (fl [wAu G q_7 uu_8.1 uu_8.2.1 uu_8.2.2.1 uu_8.2.2.2.1 uu_8.2.2.2.2.1 uu_8.2.2.2.2.2 auZ, wPe G q_5 uu_6.1 uu_6.2 peZ, wEx G q_3 uu_4.1 uu_4.2.1 uu_4.2.2 exZ, wDo G q_1 uu_2.1 uu_2.2.1 uu_2.2.2.1 uu_2.2.2.2 doZ, [(h0, .inr (10, [.int (0 : Int32), .int (29 : Int32), .ref q_1, .ref q_3, .ref q_5, .null]))]]) := hD
  refine W.eq (g2 := F0 m 56 ls [.ref q_7, .ref h0]) rfl ?_
  refine va_putF (D := G.1) (ci := 10) (v := .ref q_7) (ty := .object "MoonlitDoors$Audits") (C := RX8) (T := TX8) (N := 6) hx hb hts uws_X8 tyX8 tyX8_ok nmX8 hown hK hP hD hS 19 rfl rfl 5 (by decide) (hts _ u_1033) (fun _ h9 => h9) rfl hin rfl (by decide +kernel) rfl rfl (Nat.le_of_ble_eq_true rfl) dX8_init_56 (fun H locs hP hD hS => ?_)
  have hP : va_P G.1 vwCl (fl [wAu G q_7 uu_8.1 uu_8.2.1 uu_8.2.2.1 uu_8.2.2.2.1 uu_8.2.2.2.2.1 uu_8.2.2.2.2.2 auZ, wPe G q_5 uu_6.1 uu_6.2 peZ, wEx G q_3 uu_4.1 uu_4.2.1 uu_4.2.2 exZ, wDo G q_1 uu_2.1 uu_2.2.1 uu_2.2.2.1 uu_2.2.2.2 doZ, [(h0, .inr (10, [.int (0 : Int32), .int (29 : Int32), .ref q_1, .ref q_3, .ref q_5, .ref q_7]))]]) H := hP
  have hD : va_D A (fl [wAu G q_7 uu_8.1 uu_8.2.1 uu_8.2.2.1 uu_8.2.2.2.1 uu_8.2.2.2.2.1 uu_8.2.2.2.2.2 auZ, wPe G q_5 uu_6.1 uu_6.2 peZ, wEx G q_3 uu_4.1 uu_4.2.1 uu_4.2.2 exZ, wDo G q_1 uu_2.1 uu_2.2.1 uu_2.2.2.1 uu_2.2.2.2 doZ, [(h0, .inr (10, [.int (0 : Int32), .int (29 : Int32), .ref q_1, .ref q_3, .ref q_5, .ref q_7]))]]) := hD
  have hP := fl_sub (cs := [[(h0, .inr (10, [.int (0 : Int32), .int (29 : Int32), .ref q_1, .ref q_3, .ref q_5, .ref q_7]))], wDo G q_1 uu_2.1 uu_2.2.1 uu_2.2.2.1 uu_2.2.2.2 doZ, wEx G q_3 uu_4.1 uu_4.2.1 uu_4.2.2 exZ, wPe G q_5 uu_6.1 uu_6.2 peZ, wAu G q_7 uu_8.1 uu_8.2.1 uu_8.2.2.1 uu_8.2.2.2.1 uu_8.2.2.2.2.1 uu_8.2.2.2.2.2 auZ]) [4, 3, 2, 1, 0] rfl hP
  have hD := fl_subD (cs := [[(h0, .inr (10, [.int (0 : Int32), .int (29 : Int32), .ref q_1, .ref q_3, .ref q_5, .ref q_7]))], wDo G q_1 uu_2.1 uu_2.2.1 uu_2.2.2.1 uu_2.2.2.2 doZ, wEx G q_3 uu_4.1 uu_4.2.1 uu_4.2.2 exZ, wPe G q_5 uu_6.1 uu_6.2 peZ, wAu G q_7 uu_8.1 uu_8.2.1 uu_8.2.2.1 uu_8.2.2.2.1 uu_8.2.2.2.2.1 uu_8.2.2.2.2.2 auZ]) [4, 3, 2, 1, 0] rfl rfl hD
  exact w_retV (u := (fun i => match i with | 0 => h0 | 1 => q_1 | 2 => uu_2.1 | 3 => uu_2.2.1 | 4 => uu_2.2.2.1 | 5 => uu_2.2.2.2 | 6 => q_3 | 7 => uu_4.1 | 8 => uu_4.2.1 | 9 => uu_4.2.2 | 10 => q_5 | 11 => uu_6.1 | 12 => uu_6.2 | 13 => q_7 | 14 => uu_8.1 | 15 => uu_8.2.1 | 16 => uu_8.2.2.1 | 17 => uu_8.2.2.2.1 | 18 => uu_8.2.2.2.2.1 | _ => uu_8.2.2.2.2.2)) hx hb hr hlk hS rfl rfl hP hD (Nat.le_of_ble_eq_true rfl) (Nat.le_of_ble_eq_true rfl) dX8_init_59
