theorem dJ0_init_db425_0 : decode cJ0_init_db425 0 = .ok (.aload_n 0, 1) := by decide +kernel
theorem dJ0_init_db425_1 : decode cJ0_init_db425 1 = .ok (.invokespecial 1, 3) := by decide +kernel
theorem u_356 : Cond.methodLink RJ0 1 ⟨"java/lang/Object", "<init>", "()V"⟩ ∈ UW := uw 356 (by decide +kernel) rfl
theorem dJ0_init_db425_4 : decode cJ0_init_db425 4 = .ok (.aload_n 1, 1) := by decide +kernel
theorem dJ0_init_db425_5 : decode cJ0_init_db425 5 = .ok (.invokevirtual 552, 3) := by decide +kernel
theorem u_357 : Cond.methodLink RJ0 552 yJ5_getValue_6d5f1 ∈ UW := uw 357 (by decide +kernel) rfl
theorem u_359 : Cond.sameMethod RJ5 RJ5 "getValue" "()[B" ∈ UW := uw 359 (by decide +kernel) rfl
theorem u_360 : Cond.selects RJ4 yJ5_getValue_6d5f1 yJ5_getValue_6d5f1 ∈ UW := uw 360 (by decide +kernel) rfl
theorem u_358 : Cond.instanceMethod yJ5_getValue_6d5f1 ∈ UW := uw 358 (by decide +kernel) rfl
theorem u_361 : Cond.code yJ5_getValue_6d5f1 cJ5_getValue_6d5f1 1 (some (.array .byte)) ∈ UW := uw 361 (by decide +kernel) rfl
theorem gU_J0_552 : GoodIn UW (va_wsU RJ0 552 RJ4 "java/lang/AbstractStringBuilder" yJ5_getValue_6d5f1 yJ5_getValue_6d5f1 (wsU yJ5_getValue_6d5f1 cJ5_getValue_6d5f1 1 (some (.array .byte)))) := gU u_357 u_359 u_360 u_358 u_29 u_361
theorem hdu_J5_getValue_6d5f1 : ("java/lang/AbstractStringBuilder" : String) ≠ "java/lang/invoke/MethodHandle" ∧ ("java/lang/AbstractStringBuilder" : String) ≠ "java/lang/invoke/VarHandle" ∧ (parseMethodDescriptor yJ5_getValue_6d5f1.desc).map (fun d => d.parameters.length) = some 0 := by decide +kernel
theorem dJ0_init_db425_8 : decode cJ0_init_db425 8 = .ok (.astore_n 3, 1) := by decide +kernel
theorem dJ0_init_db425_9 : decode cJ0_init_db425 9 = .ok (.aload_n 1, 1) := by decide +kernel
theorem dJ0_init_db425_10 : decode cJ0_init_db425 10 = .ok (.invokevirtual 549, 3) := by decide +kernel
theorem u_362 : Cond.methodLink RJ0 549 yJ5_length_8abf5 ∈ UW := uw 362 (by decide +kernel) rfl
theorem u_365 : Cond.selects RJ4 yJ5_length_8abf5 yJ4_length_8abf5 ∈ UW := uw 365 (by decide +kernel) rfl
theorem gO_J0_549 : GoodIn UW (va_wsO RJ0 549 RJ4 "java/lang/AbstractStringBuilder" yJ5_length_8abf5 yJ4_length_8abf5 (wsU yJ4_length_8abf5 cJ4_length_8abf5 1 (some .int))) := gO u_362 u_364 u_365 u_366 u_30 u_367 u_363
theorem hdu_J5_length_8abf5 : ("java/lang/AbstractStringBuilder" : String) ≠ "java/lang/invoke/MethodHandle" ∧ ("java/lang/AbstractStringBuilder" : String) ≠ "java/lang/invoke/VarHandle" ∧ (parseMethodDescriptor yJ5_length_8abf5.desc).map (fun d => d.parameters.length) = some 0 := by decide +kernel
theorem dJ0_init_db425_13 : decode cJ0_init_db425 13 = .ok (.istore 4, 2) := by decide +kernel
theorem dJ0_init_db425_15 : decode cJ0_init_db425 15 = .ok (.aload_n 1, 1) := by decide +kernel
theorem dJ0_init_db425_16 : decode cJ0_init_db425 16 = .ok (.invokevirtual 1047, 3) := by decide +kernel
theorem u_370 : Cond.methodLink RJ0 1047 yJ5_isLatin1_aae02 ∈ UW := uw 370 (by decide +kernel) rfl
theorem gU_J0_1047 : GoodIn UW (va_wsU RJ0 1047 RJ4 "java/lang/AbstractStringBuilder" yJ5_isLatin1_aae02 yJ5_isLatin1_aae02 (wsU yJ5_isLatin1_aae02 cJ5_isLatin1_aae02 1 (some .boolean))) := gU u_370 u_247 u_248 u_246 u_29 u_249
theorem dJ0_init_db425_19 : decode cJ0_init_db425 19 = .ok (.ifCond .eq 22, 3) := by decide +kernel
theorem dJ0_init_db425_22 : decode cJ0_init_db425 22 = .ok (.aload_n 0, 1) := by decide +kernel
theorem dJ0_init_db425_23 : decode cJ0_init_db425 23 = .ok (.iconst 0, 1) := by decide +kernel
theorem dJ0_init_db425_24 : decode cJ0_init_db425 24 = .ok (.putfield 15, 3) := by decide +kernel
theorem dJ0_init_db425_27 : decode cJ0_init_db425 27 = .ok (.aload_n 0, 1) := by decide +kernel
theorem dJ0_init_db425_28 : decode cJ0_init_db425 28 = .ok (.aload_n 3, 1) := by decide +kernel
theorem dJ0_init_db425_29 : decode cJ0_init_db425 29 = .ok (.iconst 0, 1) := by decide +kernel
theorem dJ0_init_db425_30 : decode cJ0_init_db425 30 = .ok (.iload 4, 2) := by decide +kernel
theorem dJ0_init_db425_32 : decode cJ0_init_db425 32 = .ok (.invokestatic 54, 3) := by decide +kernel
theorem u_371 : Cond.methodLink RJ0 54 yJ7_copyOfRange_39247 ∈ UW := uw 371 (by decide +kernel) rfl
theorem u_372 : Cond.static yJ7_copyOfRange_39247 ∈ UW := uw 372 (by decide +kernel) rfl
theorem u_373 : Cond.code yJ7_copyOfRange_39247 cJ7_copyOfRange_39247 3 (some (.array .byte)) ∈ UW := uw 373 (by decide +kernel) rfl
theorem g_J0_54 : GoodIn UW (va_wsS RJ0 54 yJ7_copyOfRange_39247 (wsU yJ7_copyOfRange_39247 cJ7_copyOfRange_39247 3 (some (.array .byte)))) := gS u_371 u_372 u_50 u_373
theorem hds_J7_copyOfRange_39247 : yJ7_copyOfRange_39247.cls ≠ "java/lang/invoke/MethodHandle" ∧ yJ7_copyOfRange_39247.cls ≠ "java/lang/invoke/VarHandle" ∧ (parseMethodDescriptor yJ7_copyOfRange_39247.desc).map (fun d => d.parameters.length) = some 3 := by decide +kernel
theorem dJ0_init_db425_35 : decode cJ0_init_db425 35 = .ok (.putfield 9, 3) := by decide +kernel
theorem dJ0_init_db425_38 : decode cJ0_init_db425 38 = .ok (.goto 59, 3) := by decide +kernel
theorem dJ0_init_db425_97 : decode cJ0_init_db425 97 = .ok (.return_, 1) := by decide +kernel
def f_J0_init_db425 (sb : SbV) : Nat × (Nat → Int32) := (let uu_8 : Nat × (Nat → Int32) := (f_J7_copyOfRange_39247 sb.1 sb.2.1 (0 : Int32) (f_J4_length_8abf5 sb)); (uu_8.1, uu_8.2))
def ok_J0_init_db425 (sb : SbV) : Prop := (ok_J7_copyOfRange_39247 sb.1 sb.2.1 (0 : Int32) (f_J4_length_8abf5 sb) ∧ (sb.1 < 2147483648 ∧ True))
set_option maxHeartbeats 4000000 in
set_option maxRecDepth 100000 in
theorem c_J0_init_db425 (l : Launch) (G : GG) (thh0 : Nat) (sbh0 : Nat) (sbh1 : Nat) (sz : Nat) (sb : SbV) (hok : ok_J0_init_db425 sb) : wMet l yJ0_init_db425 cJ0_init_db425 5 none 5 1 200 G (fl [[(thh0, .inr (0, [.null, .int (0 : Int32), .int (0 : Int32), .int (0 : Int32)]))], [(sbh0, .inr (1, [.ref sbh1, .int (0 : Int32), .int sb.2.2.1, .int sb.2.2.2]))], [(sbh1, .inl (G.2.1 2, sb.1, .inl sb.2.1))]]) [.ref thh0, .ref sbh0, .null] sz (fun u : Nat × Nat × (Nat → Int32) => none) (fun u : Nat × Nat × (Nat → Int32) => u.2 = f_J0_init_db425 sb) (fun u : Nat × Nat × (Nat → Int32) => fl [[(thh0, .inr (0, [.ref u.1, .int (0 : Int32), .int (0 : Int32), .int (0 : Int32)]))], [(sbh0, .inr (1, [.ref sbh1, .int (0 : Int32), .int sb.2.2.1, .int sb.2.2.2]))], [(sbh1, .inl (G.2.1 2, sb.1, .inl sb.2.1))], [(u.1, .inl (G.2.1 2, u.2.1, .inl u.2.2))]]) := by
  refine w_start (by decide +kernel) (Nat.le_of_ble_eq_true rfl) ?_
  intro p e s m below meth c A hx hb hr hml hts hown hlk hin hP hD hA hK hST ls hl
  have hS : va_S A s.heap s.heap [] := va_S.rf
  have hown : s.vm.findClass RJ0 = some m.cls := hown
  have hl : lv_has ls 5 [(0, .ref thh0), (1, .ref sbh0), (2, .null)] := hl
  have hF : f_J0_init_db425 sb = (let uu_8 : Nat × (Nat → Int32) := (f_J7_copyOfRange_39247 sb.1 sb.2.1 (0 : Int32) (f_J4_length_8abf5 sb)); (uu_8.1, uu_8.2)) := rfl
  have hok : (ok_J7_copyOfRange_39247 sb.1 sb.2.1 (0 : Int32) (f_J4_length_8abf5 sb) ∧ (sb.1 < 2147483648 ∧ True)) := hok
  refine lv_aload_n hx hb dJ0_init_db425_0 rfl (lv_at hl 0 rfl) ?_
  refine W.objInit hx hb hown (hts _ u_356) (hts _ u_105) (hts _ u_106) rfl (by rw [hml]; exact hl.1) rfl dJ0_init_db425_1 (Nat.le_of_ble_eq_true rfl) (Nat.le_of_ble_eq_true rfl) ?_
  refine W.eq (g2 := F0 m 4 ls []) rfl ?_
  refine lv_aload_n hx hb dJ0_init_db425_4 rfl (lv_at hl 1 rfl) ?_
  refine r_U (own := RJ0) (v := (some (.ref sbh1))) (st1 := [.ref sbh1]) (As := []) (rest := []) (c_J5_getValue_6d5f1 l G sbh0 sbh1 sb) ⟨hx, hb, hml, hown, hts⟩ gU_J0_552 hdu_J5_getValue_6d5f1 rfl hK hST hS hP [1, 2] rfl (va_recv hK hP (ci := 1) (q0 := 1) rfl rfl) ⟨Nat.le_of_ble_eq_true rfl, Nat.le_of_ble_eq_true rfl⟩ ⟨Nat.le_of_ble_eq_true rfl, Nat.le_of_ble_eq_true rfl⟩ rfl hl.1 rfl (Nat.le_of_ble_eq_true rfl) dJ0_init_db425_5 rfl (fun b_1 => ?_)
  refine lv_astore_n (lv' := [(3, .ref sbh1), (0, .ref thh0), (1, .ref sbh0), (2, .null)]) hx hb dJ0_init_db425_8 rfl hl (by decide) rfl (fun ls hl => ?_)
  refine lv_aload_n hx hb dJ0_init_db425_9 rfl (lv_at hl 2 rfl) ?_
  refine r_O (own := RJ0) (v := (some (.int (f_J4_length_8abf5 sb)))) (st1 := [.int (f_J4_length_8abf5 sb)]) (As := []) (rest := []) (c_J4_length_8abf5 l G sbh0 sbh1 sb) ⟨hx, hb, hml, hown, hts⟩ gO_J0_549 u_369 hdu_J5_length_8abf5 hK hST hS hP [1, 2] rfl (va_recv hK hP (ci := 1) (q0 := 1) rfl rfl) ⟨Nat.le_of_ble_eq_true rfl, Nat.le_of_ble_eq_true rfl⟩ ⟨Nat.le_of_ble_eq_true rfl, Nat.le_of_ble_eq_true rfl⟩ rfl hl.1 rfl (Nat.le_of_ble_eq_true rfl) dJ0_init_db425_10 rfl (fun b_2 => ?_)
  refine lv_istore (lv' := [(4, .int (f_J4_length_8abf5 sb)), (3, .ref sbh1), (0, .ref thh0), (1, .ref sbh0), (2, .null)]) hx hb dJ0_init_db425_13 hl (by decide) rfl (fun ls hl => ?_)
  refine lv_aload_n hx hb dJ0_init_db425_15 rfl (lv_at hl 3 rfl) ?_
  refine r_U (own := RJ0) (v := (some (.int (1 : Int32)))) (st1 := [.int (1 : Int32)]) (As := []) (rest := []) (c_J5_isLatin1_aae02 l G sbh0 sbh1 sb) ⟨hx, hb, hml, hown, hts⟩ gU_J0_1047 hdu_J5_isLatin1_aae02 rfl hK hST hS hP [1, 2] rfl (va_recv hK hP (ci := 1) (q0 := 1) rfl rfl) ⟨Nat.le_of_ble_eq_true rfl, Nat.le_of_ble_eq_true rfl⟩ ⟨Nat.le_of_ble_eq_true rfl, Nat.le_of_ble_eq_true rfl⟩ rfl hl.1 rfl (Nat.le_of_ble_eq_true rfl) dJ0_init_db425_16 rfl (fun b_3 => ?_)
  refine lv_if_eq (tgt := 41) hx hb dJ0_init_db425_19 (by decide) (fun c_4 => ?_) (fun c_4 => ?_)
  · exact absurd c_4 (by decide)
  · refine lv_aload_n hx hb dJ0_init_db425_22 rfl (lv_at hl 2 rfl) ?_
    refine lv_iconst (v := (0 : Int32)) hx hb dJ0_init_db425_23 (by decide) ?_
    refine va_putF (D := G.1) (ci := 0) (v := .int (0 : Int32)) (ty := .byte) (C := RJ0) (T := TJ0) (N := 4) hx hb hts uws_J0 tyJ0 tyJ0_ok nmJ0 hown hK hP hD hS 0 rfl rfl 1 (by decide) (hts _ u_415) (fun _ h9 => h9) rfl hin rfl (by decide +kernel) rfl rfl (Nat.le_of_ble_eq_true rfl) dJ0_init_db425_24 (fun H locs hP hD hS => ?_)
    have hP : va_P G.1 vwCl (fl [[(thh0, .inr (0, [.null, .int (0 : Int32), .int (0 : Int32), .int (0 : Int32)]))], [(sbh0, .inr (1, [.ref sbh1, .int (0 : Int32), .int sb.2.2.1, .int sb.2.2.2]))], [(sbh1, .inl (G.2.1 2, sb.1, .inl sb.2.1))]]) H := hP
    have hD : va_D A (fl [[(thh0, .inr (0, [.null, .int (0 : Int32), .int (0 : Int32), .int (0 : Int32)]))], [(sbh0, .inr (1, [.ref sbh1, .int (0 : Int32), .int sb.2.2.1, .int sb.2.2.2]))], [(sbh1, .inl (G.2.1 2, sb.1, .inl sb.2.1))]]) := hD
    refine lv_aload_n hx hb dJ0_init_db425_27 rfl (lv_at hl 2 rfl) ?_
    refine lv_aload_n hx hb dJ0_init_db425_28 rfl (lv_at hl 1 rfl) ?_
    refine lv_iconst (v := (0 : Int32)) hx hb dJ0_init_db425_29 (by decide) ?_
    refine lv_iload hx hb dJ0_init_db425_30 (lv_at hl 0 rfl) ?_
    have k_5 := hok.1
    have hok := hok.2
    have k_6 := hok.1
    have hok := hok.2
    refine w_S (own := RJ0) (cs := [[(sbh1, .inl (G.2.1 2, sb.1, .inl sb.2.1))]]) (rs := [[(thh0, .inr (0, [.null, .int (0 : Int32), .int (0 : Int32), .int (0 : Int32)]))], [(sbh0, .inr (1, [.ref sbh1, .int (0 : Int32), .int sb.2.2.1, .int sb.2.2.2]))]]) (As := [.ref sbh1, .int (0 : Int32), .int (f_J4_length_8abf5 sb)]) (rest := [.ref thh0]) (c_J7_copyOfRange_39247 l G sbh1 H.size sb.1 sb.2.1 (0 : Int32) (f_J4_length_8abf5 sb) k_5 k_6) ⟨hx, hb, hml, hown, hts⟩ g_J0_54 hds_J7_copyOfRange_39247 hK hST hS hP hD hA [2] [0, 1] rfl rfl rfl ⟨Nat.le_of_ble_eq_true rfl, Nat.le_of_ble_eq_true rfl⟩ ⟨Nat.le_of_ble_eq_true rfl, Nat.le_of_ble_eq_true rfl⟩ rfl hl.1 rfl (Nat.le_of_ble_eq_true rfl) dJ0_init_db425_32 (fun uu_8 H locs huu hP hD hS => ?_)
    obtain ⟨quu_8, uu_8⟩ := uu_8
    have euu_8 : uu_8 = (f_J7_copyOfRange_39247 sb.1 sb.2.1 (0 : Int32) (f_J4_length_8abf5 sb)) := huu
    have hP : va_P G.1 vwCl (fl [[(sbh1, .inl (G.2.1 2, sb.1, .inl sb.2.1))], [(quu_8, .inl (G.2.1 2, uu_8.1, .inl uu_8.2))], [(thh0, .inr (0, [.null, .int (0 : Int32), .int (0 : Int32), .int (0 : Int32)]))], [(sbh0, .inr (1, [.ref sbh1, .int (0 : Int32), .int sb.2.2.1, .int sb.2.2.2]))]]) H := hP
    have hD : va_D A (fl [[(sbh1, .inl (G.2.1 2, sb.1, .inl sb.2.1))], [(quu_8, .inl (G.2.1 2, uu_8.1, .inl uu_8.2))], [(thh0, .inr (0, [.null, .int (0 : Int32), .int (0 : Int32), .int (0 : Int32)]))], [(sbh0, .inr (1, [.ref sbh1, .int (0 : Int32), .int sb.2.2.1, .int sb.2.2.2]))]]) := hD
    refine W.eq (g2 := F0 m 35 ls [.ref quu_8, .ref thh0]) rfl ?_
    have hF : f_J0_init_db425 sb = (uu_8.1, uu_8.2) := by subst euu_8; exact hF
    refine va_putF (D := G.1) (ci := 0) (v := .ref quu_8) (ty := .array .byte) (C := RJ0) (T := TJ0) (N := 4) hx hb hts uws_J0 tyJ0 tyJ0_ok nmJ0 hown hK hP hD hS 2 rfl rfl 0 (by decide) (hts _ u_414) (fun _ h9 => h9) rfl hin rfl (by decide +kernel) rfl rfl (Nat.le_of_ble_eq_true rfl) dJ0_init_db425_35 (fun H locs hP hD hS => ?_)
    have hP : va_P G.1 vwCl (fl [[(sbh1, .inl (G.2.1 2, sb.1, .inl sb.2.1))], [(quu_8, .inl (G.2.1 2, uu_8.1, .inl uu_8.2))], [(thh0, .inr (0, [.ref quu_8, .int (0 : Int32), .int (0 : Int32), .int (0 : Int32)]))], [(sbh0, .inr (1, [.ref sbh1, .int (0 : Int32), .int sb.2.2.1, .int sb.2.2.2]))]]) H := hP
    have hD : va_D A (fl [[(sbh1, .inl (G.2.1 2, sb.1, .inl sb.2.1))], [(quu_8, .inl (G.2.1 2, uu_8.1, .inl uu_8.2))], [(thh0, .inr (0, [.ref quu_8, .int (0 : Int32), .int (0 : Int32), .int (0 : Int32)]))], [(sbh0, .inr (1, [.ref sbh1, .int (0 : Int32), .int sb.2.2.1, .int sb.2.2.2]))]]) := hD
    refine lv_goto (tgt := 97) hx hb dJ0_init_db425_38 (by decide) ?_
    have hP := fl_sub (cs := [[(thh0, .inr (0, [.ref quu_8, .int (0 : Int32), .int (0 : Int32), .int (0 : Int32)]))], [(sbh0, .inr (1, [.ref sbh1, .int (0 : Int32), .int sb.2.2.1, .int sb.2.2.2]))], [(sbh1, .inl (G.2.1 2, sb.1, .inl sb.2.1))], [(quu_8, .inl (G.2.1 2, uu_8.1, .inl uu_8.2))]]) [2, 3, 0, 1] rfl hP
    have hD := fl_subD (cs := [[(thh0, .inr (0, [.ref quu_8, .int (0 : Int32), .int (0 : Int32), .int (0 : Int32)]))], [(sbh0, .inr (1, [.ref sbh1, .int (0 : Int32), .int sb.2.2.1, .int sb.2.2.2]))], [(sbh1, .inl (G.2.1 2, sb.1, .inl sb.2.1))], [(quu_8, .inl (G.2.1 2, uu_8.1, .inl uu_8.2))]]) [2, 3, 0, 1] rfl rfl hD
    exact w_retV (u := (quu_8, (uu_8.1, uu_8.2))) hx hb hr hlk hS rfl hF.symm hP hD (Nat.le_of_ble_eq_true rfl) (Nat.le_of_ble_eq_true rfl) dJ0_init_db425_97
theorem dJ0_init_81219_0 : decode cJ0_init_81219 0 = .ok (.aload_n 0, 1) := by decide +kernel
theorem dJ0_init_81219_1 : decode cJ0_init_81219 1 = .ok (.aload_n 1, 1) := by decide +kernel
theorem dJ0_init_81219_2 : decode cJ0_init_81219 2 = .ok (.aconst_null, 1) := by decide +kernel
theorem dJ0_init_81219_3 : decode cJ0_init_81219 3 = .ok (.invokespecial 489, 3) := by decide +kernel
theorem u_355 : Cond.code yJ0_init_db425 cJ0_init_db425 5 none ∈ UW := uw 355 (by decide +kernel) rfl
theorem u_354 : Cond.instanceMethod yJ0_init_db425 ∈ UW := uw 354 (by decide +kernel) rfl
theorem hds_J0_init_db425 : yJ0_init_db425.cls ≠ "java/lang/invoke/MethodHandle" ∧ yJ0_init_db425.cls ≠ "java/lang/invoke/VarHandle" ∧ (parseMethodDescriptor yJ0_init_db425.desc).map (fun d => d.parameters.length) = some 2 := by decide +kernel
theorem u_353 : Cond.methodLink RJ0 489 yJ0_init_db425 ∈ UW := uw 353 (by decide +kernel) rfl
theorem dJ0_init_81219_6 : decode cJ0_init_81219 6 = .ok (.return_, 1) := by decide +kernel
def f_J0_init_81219 (sb : SbV) : Nat × (Nat → Int32) := (let uu_3 : Nat × (Nat → Int32) := (f_J0_init_db425 sb); (uu_3.1, uu_3.2))
def ok_J0_init_81219 (sb : SbV) : Prop := (ok_J0_init_db425 sb ∧ True)
set_option maxHeartbeats 4000000 in
set_option maxRecDepth 100000 in
theorem c_J0_init_81219 (l : Launch) (G : GG) (thh0 : Nat) (sbh0 : Nat) (sbh1 : Nat) (sz : Nat) (sb : SbV) (hok : ok_J0_init_81219 sb) : wMet l yJ0_init_81219 cJ0_init_81219 2 none 6 1 200 G (fl [[(thh0, .inr (0, [.null, .int (0 : Int32), .int (0 : Int32), .int (0 : Int32)]))], [(sbh0, .inr (1, [.ref sbh1, .int (0 : Int32), .int sb.2.2.1, .int sb.2.2.2]))], [(sbh1, .inl (G.2.1 2, sb.1, .inl sb.2.1))]]) [.ref thh0, .ref sbh0] sz (fun u : Nat × Nat × (Nat → Int32) => none) (fun u : Nat × Nat × (Nat → Int32) => u.2 = f_J0_init_81219 sb) (fun u : Nat × Nat × (Nat → Int32) => fl [[(thh0, .inr (0, [.ref u.1, .int (0 : Int32), .int (0 : Int32), .int (0 : Int32)]))], [(sbh0, .inr (1, [.ref sbh1, .int (0 : Int32), .int sb.2.2.1, .int sb.2.2.2]))], [(sbh1, .inl (G.2.1 2, sb.1, .inl sb.2.1))], [(u.1, .inl (G.2.1 2, u.2.1, .inl u.2.2))]]) := by
  refine w_start (by decide +kernel) (Nat.le_of_ble_eq_true rfl) ?_
  intro p e s m below meth c A hx hb hr hml hts hown hlk hin hP hD hA hK hST ls hl
  have hS : va_S A s.heap s.heap [] := va_S.rf
  have hown : s.vm.findClass RJ0 = some m.cls := hown
  have hl : lv_has ls 2 [(0, .ref thh0), (1, .ref sbh0)] := hl
  have hF : f_J0_init_81219 sb = (let uu_3 : Nat × (Nat → Int32) := (f_J0_init_db425 sb); (uu_3.1, uu_3.2)) := rfl
  have hok : (ok_J0_init_db425 sb ∧ True) := hok
  refine lv_aload_n hx hb dJ0_init_81219_0 rfl (lv_at hl 0 rfl) ?_
  refine lv_aload_n hx hb dJ0_init_81219_1 rfl (lv_at hl 1 rfl) ?_
  refine lv_null hx hb dJ0_init_81219_2 ?_
  have k_1 := hok.1
  have hok := hok.2
  refine w_I (own := RJ0) (cs := [[(thh0, .inr (0, [.null, .int (0 : Int32), .int (0 : Int32), .int (0 : Int32)]))], [(sbh0, .inr (1, [.ref sbh1, .int (0 : Int32), .int sb.2.2.1, .int sb.2.2.2]))], [(sbh1, .inl (G.2.1 2, sb.1, .inl sb.2.1))]]) (rs := []) (As := [.ref sbh0, .null]) (rest := []) (c_J0_init_db425 l G thh0 sbh0 sbh1 s.heap.size sb k_1) ⟨hx, hb, hml, hown, hts⟩ (hts _ u_353) u_355 u_31 u_354 rfl hds_J0_init_db425 hK hST hS hP hD hA [0, 1, 2] [] rfl rfl rfl ⟨Nat.le_of_ble_eq_true rfl, Nat.le_of_ble_eq_true rfl⟩ ⟨Nat.le_of_ble_eq_true rfl, Nat.le_of_ble_eq_true rfl⟩ rfl hl.1 rfl (Nat.le_of_ble_eq_true rfl) dJ0_init_81219_3 (fun uu_3 H locs huu hP hD hS => ?_)
  obtain ⟨quu_3, uu_3⟩ := uu_3
  have euu_3 : uu_3 = (f_J0_init_db425 sb) := huu
  have hP : va_P G.1 vwCl (fl [[(thh0, .inr (0, [.ref quu_3, .int (0 : Int32), .int (0 : Int32), .int (0 : Int32)]))], [(sbh0, .inr (1, [.ref sbh1, .int (0 : Int32), .int sb.2.2.1, .int sb.2.2.2]))], [(sbh1, .inl (G.2.1 2, sb.1, .inl sb.2.1))], [(quu_3, .inl (G.2.1 2, uu_3.1, .inl uu_3.2))]]) H := hP
  have hD : va_D A (fl [[(thh0, .inr (0, [.ref quu_3, .int (0 : Int32), .int (0 : Int32), .int (0 : Int32)]))], [(sbh0, .inr (1, [.ref sbh1, .int (0 : Int32), .int sb.2.2.1, .int sb.2.2.2]))], [(sbh1, .inl (G.2.1 2, sb.1, .inl sb.2.1))], [(quu_3, .inl (G.2.1 2, uu_3.1, .inl uu_3.2))]]) := hD
  refine W.eq (g2 := F0 m 6 ls []) rfl ?_
  have hF : f_J0_init_81219 sb = (uu_3.1, uu_3.2) := by subst euu_3; exact hF
  exact w_retV (u := (quu_3, (uu_3.1, uu_3.2))) hx hb hr hlk hS rfl hF.symm hP hD (Nat.le_of_ble_eq_true rfl) (Nat.le_of_ble_eq_true rfl) dJ0_init_81219_6
theorem dJ4_toString_0e30d_0 : decode cJ4_toString_0e30d 0 = .ok (.new 18, 3) := by decide +kernel
theorem u_348 : Cond.classLink RJ4 18 RJ0 ∈ UW := uw 348 (by decide +kernel) rfl
theorem u_349 : Cond.instantiable RJ0 4 ∈ UW := uw 349 (by decide +kernel) rfl
theorem dJ4_toString_0e30d_3 : decode cJ4_toString_0e30d 3 = .ok (.dup, 1) := by decide +kernel
theorem dJ4_toString_0e30d_4 : decode cJ4_toString_0e30d 4 = .ok (.aload_n 0, 1) := by decide +kernel
theorem dJ4_toString_0e30d_5 : decode cJ4_toString_0e30d 5 = .ok (.invokespecial 137, 3) := by decide +kernel
theorem u_352 : Cond.code yJ0_init_81219 cJ0_init_81219 2 none ∈ UW := uw 352 (by decide +kernel) rfl
theorem u_351 : Cond.instanceMethod yJ0_init_81219 ∈ UW := uw 351 (by decide +kernel) rfl
theorem hds_J0_init_81219 : yJ0_init_81219.cls ≠ "java/lang/invoke/MethodHandle" ∧ yJ0_init_81219.cls ≠ "java/lang/invoke/VarHandle" ∧ (parseMethodDescriptor yJ0_init_81219.desc).map (fun d => d.parameters.length) = some 1 := by decide +kernel
theorem u_350 : Cond.methodLink RJ4 137 yJ0_init_81219 ∈ UW := uw 350 (by decide +kernel) rfl
theorem dJ4_toString_0e30d_8 : decode cJ4_toString_0e30d 8 = .ok (.areturn, 1) := by decide +kernel
def f_J4_toString_0e30d (sb : SbV) : Nat × (Nat → Int32) := (let uu_4 : Nat × (Nat → Int32) := (f_J0_init_81219 sb); (uu_4.1, uu_4.2))
def ok_J4_toString_0e30d (sb : SbV) : Prop := (ok_J0_init_81219 sb ∧ True)
set_option maxHeartbeats 4000000 in
set_option maxRecDepth 100000 in
theorem c_J4_toString_0e30d (l : Launch) (G : GG) (sbh0 : Nat) (sbh1 : Nat) (sz : Nat) (sb : SbV) (hok : ok_J4_toString_0e30d sb) : wMet l yJ4_toString_0e30d cJ4_toString_0e30d 1 (some (.object "java/lang/String")) 7 2 204 G (fl [[(sbh0, .inr (1, [.ref sbh1, .int (0 : Int32), .int sb.2.2.1, .int sb.2.2.2]))], [(sbh1, .inl (G.2.1 2, sb.1, .inl sb.2.1))]]) [.ref sbh0] sz (fun u : (Nat × Nat) × Nat × (Nat → Int32) => some (.ref u.1.1)) (fun u : (Nat × Nat) × Nat × (Nat → Int32) => u.2 = f_J4_toString_0e30d sb) (fun u : (Nat × Nat) × Nat × (Nat → Int32) => fl [[(sbh0, .inr (1, [.ref sbh1, .int (0 : Int32), .int sb.2.2.1, .int sb.2.2.2]))], [(sbh1, .inl (G.2.1 2, sb.1, .inl sb.2.1))], [(u.1.1, .inr (0, [.ref u.1.2, .int (0 : Int32), .int (0 : Int32), .int (0 : Int32)]))], [(u.1.2, .inl (G.2.1 2, u.2.1, .inl u.2.2))]]) := by
  refine w_start (by decide +kernel) (Nat.le_of_ble_eq_true rfl) ?_
  intro p e s m below meth c A hx hb hr hml hts hown hlk hin hP hD hA hK hST ls hl
  have hS : va_S A s.heap s.heap [] := va_S.rf
  have hown : s.vm.findClass RJ4 = some m.cls := hown
  have hl : lv_has ls 1 [(0, .ref sbh0)] := hl
  have hF : f_J4_toString_0e30d sb = (let uu_4 : Nat × (Nat → Int32) := (f_J0_init_81219 sb); (uu_4.1, uu_4.2)) := rfl
  have hok : (ok_J0_init_81219 sb ∧ True) := hok
  refine w_newO (own := RJ4) (C := RJ0) (T := TJ0) (N := 4) (ci := 0) (fs := [.null, .int (0 : Int32), .int (0 : Int32), .int (0 : Int32)]) hx hb hts uws_J0 tyJ0 tyJ0_ok hown (hts _ u_348) (hts _ u_349) (hts _ u_31) hK hP hD hS hA rfl (fun j hj => by rcases (show j = 0 ∨ j = 1 ∨ j = 2 ∨ j = 3 by omega) with rfl | rfl | rfl | rfl <;> rfl) (Nat.le_of_ble_eq_true rfl) (Nat.le_of_ble_eq_true rfl) dJ4_toString_0e30d_0 (fun q_1 H hP hD hS => ?_)
  have hP : va_P G.1 vwCl (fl [[(sbh0, .inr (1, [.ref sbh1, .int (0 : Int32), .int sb.2.2.1, .int sb.2.2.2]))], [(sbh1, .inl (G.2.1 2, sb.1, .inl sb.2.1))], [(q_1, .inr (0, [.null, .int (0 : Int32), .int (0 : Int32), .int (0 : Int32)]))]]) H := hP
  have hD : va_D A (fl [[(sbh0, .inr (1, [.ref sbh1, .int (0 : Int32), .int sb.2.2.1, .int sb.2.2.2]))], [(sbh1, .inl (G.2.1 2, sb.1, .inl sb.2.1))], [(q_1, .inr (0, [.null, .int (0 : Int32), .int (0 : Int32), .int (0 : Int32)]))]]) := hD
  refine lv_dup hx hb dJ4_toString_0e30d_3 rfl ?_
  refine lv_aload_n hx hb dJ4_toString_0e30d_4 rfl (lv_at hl 0 rfl) ?_
  have k_2 := hok.1
  have hok := hok.2
  refine w_I (own := RJ4) (cs := [[(q_1, .inr (0, [.null, .int (0 : Int32), .int (0 : Int32), .int (0 : Int32)]))], [(sbh0, .inr (1, [.ref sbh1, .int (0 : Int32), .int sb.2.2.1, .int sb.2.2.2]))], [(sbh1, .inl (G.2.1 2, sb.1, .inl sb.2.1))]]) (rs := []) (As := [.ref sbh0]) (rest := [.ref q_1]) (c_J0_init_81219 l G q_1 sbh0 sbh1 H.size sb k_2) ⟨hx, hb, hml, hown, hts⟩ (hts _ u_350) u_352 u_31 u_351 rfl hds_J0_init_81219 hK hST hS hP hD hA [2, 0, 1] [] rfl rfl rfl ⟨Nat.le_of_ble_eq_true rfl, Nat.le_of_ble_eq_true rfl⟩ ⟨Nat.le_of_ble_eq_true rfl, Nat.le_of_ble_eq_true rfl⟩ rfl hl.1 rfl (Nat.le_of_ble_eq_true rfl) dJ4_toString_0e30d_5 (fun uu_4 H locs huu hP hD hS => ?_)
  obtain ⟨quu_4, uu_4⟩ := uu_4
  have euu_4 : uu_4 = (f_J0_init_81219 sb) := huu
  have hP : va_P G.1 vwCl (fl [[(q_1, .inr (0, [.ref quu_4, .int (0 : Int32), .int (0 : Int32), .int (0 : Int32)]))], [(sbh0, .inr (1, [.ref sbh1, .int (0 : Int32), .int sb.2.2.1, .int sb.2.2.2]))], [(sbh1, .inl (G.2.1 2, sb.1, .inl sb.2.1))], [(quu_4, .inl (G.2.1 2, uu_4.1, .inl uu_4.2))]]) H := hP
  have hD : va_D A (fl [[(q_1, .inr (0, [.ref quu_4, .int (0 : Int32), .int (0 : Int32), .int (0 : Int32)]))], [(sbh0, .inr (1, [.ref sbh1, .int (0 : Int32), .int sb.2.2.1, .int sb.2.2.2]))], [(sbh1, .inl (G.2.1 2, sb.1, .inl sb.2.1))], [(quu_4, .inl (G.2.1 2, uu_4.1, .inl uu_4.2))]]) := hD
  refine W.eq (g2 := F0 m 8 ls [.ref q_1]) rfl ?_
  have hF : f_J4_toString_0e30d sb = (uu_4.1, uu_4.2) := by subst euu_4; exact hF
  have hP := fl_sub (cs := [[(sbh0, .inr (1, [.ref sbh1, .int (0 : Int32), .int sb.2.2.1, .int sb.2.2.2]))], [(sbh1, .inl (G.2.1 2, sb.1, .inl sb.2.1))], [(q_1, .inr (0, [.ref quu_4, .int (0 : Int32), .int (0 : Int32), .int (0 : Int32)]))], [(quu_4, .inl (G.2.1 2, uu_4.1, .inl uu_4.2))]]) [1, 2, 0, 3] rfl hP
  have hD := fl_subD (cs := [[(sbh0, .inr (1, [.ref sbh1, .int (0 : Int32), .int sb.2.2.1, .int sb.2.2.2]))], [(sbh1, .inl (G.2.1 2, sb.1, .inl sb.2.1))], [(q_1, .inr (0, [.ref quu_4, .int (0 : Int32), .int (0 : Int32), .int (0 : Int32)]))], [(quu_4, .inl (G.2.1 2, uu_4.1, .inl uu_4.2))]]) [1, 2, 0, 3] rfl rfl hD
  exact w_retA (u := ((q_1, quu_4), (uu_4.1, uu_4.2))) hx hb hr hlk (Or.inl ⟨_, rfl⟩) (Or.inr ⟨_, rfl⟩) hS rfl hF.symm hP hD (Nat.le_of_ble_eq_true rfl) (Nat.le_of_ble_eq_true rfl) dJ4_toString_0e30d_8
