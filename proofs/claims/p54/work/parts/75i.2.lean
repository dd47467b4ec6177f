theorem dJ5_init_d00df_0 : decode cJ5_init_d00df 0 = .ok (.aload_n 0, 1) := by decide +kernel
theorem dJ5_init_d00df_1 : decode cJ5_init_d00df 1 = .ok (.invokespecial 3, 3) := by decide +kernel
theorem u_175 : Cond.methodLink RJ5 3 ⟨"java/lang/Object", "<init>", "()V"⟩ ∈ UW := uw 175 (by decide +kernel) rfl
theorem dJ5_init_d00df_4 : decode cJ5_init_d00df 4 = .ok (.getstatic 18, 3) := by decide +kernel
theorem dJ5_init_d00df_7 : decode cJ5_init_d00df 7 = .ok (.ifCond .eq 18, 3) := by decide +kernel
theorem dJ5_init_d00df_10 : decode cJ5_init_d00df 10 = .ok (.aload_n 0, 1) := by decide +kernel
theorem dJ5_init_d00df_11 : decode cJ5_init_d00df 11 = .ok (.iload_n 1, 1) := by decide +kernel
theorem dJ5_init_d00df_12 : decode cJ5_init_d00df 12 = .ok (.newarray .byte, 2) := by decide +kernel
theorem dJ5_init_d00df_14 : decode cJ5_init_d00df 14 = .ok (.putfield 15, 3) := by decide +kernel
theorem dJ5_init_d00df_17 : decode cJ5_init_d00df 17 = .ok (.aload_n 0, 1) := by decide +kernel
theorem dJ5_init_d00df_18 : decode cJ5_init_d00df 18 = .ok (.iconst 0, 1) := by decide +kernel
theorem dJ5_init_d00df_19 : decode cJ5_init_d00df 19 = .ok (.putfield 22, 3) := by decide +kernel
theorem dJ5_init_d00df_22 : decode cJ5_init_d00df 22 = .ok (.goto 16, 3) := by decide +kernel
theorem dJ5_init_d00df_38 : decode cJ5_init_d00df 38 = .ok (.return_, 1) := by decide +kernel
set_option maxHeartbeats 4000000 in
set_option maxRecDepth 100000 in
theorem c_J5_init_d00df (l : Launch) (G : GG) (h0 : Nat) (sz : Nat) : wMet l yJ5_init_d00df cJ5_init_d00df 2 none 2 1 16 G (fl [[(h0, .inr (1, [.null, .int (0 : Int32), .int (0 : Int32), .int (0 : Int32)]))]]) [.ref h0, .int (16 : Int32)] sz (fun u : Nat => none) (fun u : Nat => True) (fun u : Nat => fl [[(h0, .inr (1, [.ref u, .int (0 : Int32), .int sbZ.2.2.1, .int sbZ.2.2.2]))], [(u, .inl (G.2.1 2, sbZ.1, .inl sbZ.2.1))]]) := by
  refine w_start (by decide +kernel) (Nat.le_of_ble_eq_true rfl) ?_
  intro p e s m below meth c A hx hb hr hml hts hown hlk hin hP hD hA hK hST ls hl
  have hS : va_S A s.heap s.heap [] := va_S.rf
  have hown : s.vm.findClass RJ5 = some m.cls := hown
  have hl : lv_has ls 2 [(0, .ref h0), (1, .int (16 : Int32))] := hl
  refine lv_aload_n hx hb dJ5_init_d00df_0 rfl (lv_at hl 0 rfl) ?_
  refine W.objInit hx hb hown (hts _ u_175) (hts _ u_105) (hts _ u_106) rfl (by rw [hml]; exact hl.1) rfl dJ5_init_d00df_1 (Nat.le_of_ble_eq_true rfl) (Nat.le_of_ble_eq_true rfl) ?_
  refine W.eq (g2 := F0 m 4 ls []) rfl ?_
  refine va_gets (v := .int (1 : Int32)) hx hb hST.compact hS hown (hts _ u_176) (fun _ h9 => h9) dJ5_init_d00df_4 ?_
  refine lv_if_eq (tgt := 25) hx hb dJ5_init_d00df_7 (by decide) (fun c_1 => ?_) (fun c_1 => ?_)
  · exact absurd c_1 (by decide)
  · refine lv_aload_n hx hb dJ5_init_d00df_10 rfl (lv_at hl 0 rfl) ?_
    refine lv_iload_n hx hb dJ5_init_d00df_11 rfl (lv_at hl 1 rfl) ?_
    refine w_newB (N := 16) hx hb (hts _ u_153) hK hP hD hS hA (by decide) (by decide) (by decide) (Nat.le_of_ble_eq_true rfl) (Nat.le_of_ble_eq_true rfl) dJ5_init_d00df_12 (fun q_2 H hP hD hS => ?_)
    have hP : va_P G.1 vwCl (fl [[(h0, .inr (1, [.null, .int (0 : Int32), .int (0 : Int32), .int (0 : Int32)]))], [(q_2, .inl (G.2.1 2, 16, .inl (fun _ => 0)))]]) H := hP
    have hD : va_D A (fl [[(h0, .inr (1, [.null, .int (0 : Int32), .int (0 : Int32), .int (0 : Int32)]))], [(q_2, .inl (G.2.1 2, 16, .inl (fun _ => 0)))]]) := hD
    refine va_put (D := G.1) (ci := 1) (v := .ref q_2) (ty := .array .byte) (C := RJ4) (T := TJ4) (N := 4) hx hb hts uws_J4 tyJ4 tyJ4_ok nmJ4 hown hK hP hD hS 0 rfl rfl 0 (by decide) (hts _ u_185) (fun _ h9 => h9) rfl (by decide +kernel) rfl rfl (Nat.le_of_ble_eq_true rfl) dJ5_init_d00df_14 (fun H locs hP hD hS => ?_)
    have hP : va_P G.1 vwCl (fl [[(h0, .inr (1, [.ref q_2, .int (0 : Int32), .int (0 : Int32), .int (0 : Int32)]))], [(q_2, .inl (G.2.1 2, 16, .inl (fun _ => 0)))]]) H := hP
    have hD : va_D A (fl [[(h0, .inr (1, [.ref q_2, .int (0 : Int32), .int (0 : Int32), .int (0 : Int32)]))], [(q_2, .inl (G.2.1 2, 16, .inl (fun _ => 0)))]]) := hD
    refine lv_aload_n hx hb dJ5_init_d00df_17 rfl (lv_at hl 0 rfl) ?_
    refine lv_iconst (v := (0 : Int32)) hx hb dJ5_init_d00df_18 (by decide) ?_
    refine va_put (D := G.1) (ci := 1) (v := .int (0 : Int32)) (ty := .byte) (C := RJ4) (T := TJ4) (N := 4) hx hb hts uws_J4 tyJ4 tyJ4_ok nmJ4 hown hK hP hD hS 0 rfl rfl 1 (by decide) (hts _ u_186) (fun _ h9 => h9) rfl (by decide +kernel) rfl rfl (Nat.le_of_ble_eq_true rfl) dJ5_init_d00df_19 (fun H locs hP hD hS => ?_)
    have hP : va_P G.1 vwCl (fl [[(h0, .inr (1, [.ref q_2, .int (0 : Int32), .int (0 : Int32), .int (0 : Int32)]))], [(q_2, .inl (G.2.1 2, 16, .inl (fun _ => 0)))]]) H := hP
    have hD : va_D A (fl [[(h0, .inr (1, [.ref q_2, .int (0 : Int32), .int (0 : Int32), .int (0 : Int32)]))], [(q_2, .inl (G.2.1 2, 16, .inl (fun _ => 0)))]]) := hD
    refine lv_goto (tgt := 38) hx hb dJ5_init_d00df_22 (by decide) ?_
    exact w_retV (u := q_2) hx hb hr hlk hS rfl trivial hP hD (Nat.le_of_ble_eq_true rfl) (Nat.le_of_ble_eq_true rfl) dJ5_init_d00df_38
theorem dJ4_init_da8c8_0 : decode cJ4_init_da8c8 0 = .ok (.aload_n 0, 1) := by decide +kernel
theorem dJ4_init_da8c8_1 : decode cJ4_init_da8c8 1 = .ok (.bipush 16, 2) := by decide +kernel
theorem dJ4_init_da8c8_3 : decode cJ4_init_da8c8 3 = .ok (.invokespecial 1, 3) := by decide +kernel
theorem u_174 : Cond.code yJ5_init_d00df cJ5_init_d00df 2 none ∈ UW := uw 174 (by decide +kernel) rfl
theorem u_173 : Cond.instanceMethod yJ5_init_d00df ∈ UW := uw 173 (by decide +kernel) rfl
theorem hds_J5_init_d00df : yJ5_init_d00df.cls ≠ "java/lang/invoke/MethodHandle" ∧ yJ5_init_d00df.cls ≠ "java/lang/invoke/VarHandle" ∧ (parseMethodDescriptor yJ5_init_d00df.desc).map (fun d => d.parameters.length) = some 1 := by decide +kernel
theorem u_172 : Cond.methodLink RJ4 1 yJ5_init_d00df ∈ UW := uw 172 (by decide +kernel) rfl
theorem dJ4_init_da8c8_6 : decode cJ4_init_da8c8 6 = .ok (.return_, 1) := by decide +kernel
set_option maxHeartbeats 4000000 in
set_option maxRecDepth 100000 in
theorem c_J4_init_da8c8 (l : Launch) (G : GG) (h0 : Nat) (sz : Nat) : wMet l yJ4_init_da8c8 cJ4_init_da8c8 1 none 3 1 16 G (fl [[(h0, .inr (1, [.null, .int (0 : Int32), .int (0 : Int32), .int (0 : Int32)]))]]) [.ref h0] sz (fun u : Nat => none) (fun u : Nat => True) (fun u : Nat => fl [[(h0, .inr (1, [.ref u, .int (0 : Int32), .int sbZ.2.2.1, .int sbZ.2.2.2]))], [(u, .inl (G.2.1 2, sbZ.1, .inl sbZ.2.1))]]) := by
  refine w_start (by decide +kernel) (Nat.le_of_ble_eq_true rfl) ?_
  intro p e s m below meth c A hx hb hr hml hts hown hlk hin hP hD hA hK hST ls hl
  have hS : va_S A s.heap s.heap [] := va_S.rf
  have hown : s.vm.findClass RJ4 = some m.cls := hown
  have hl : lv_has ls 1 [(0, .ref h0)] := hl
  refine lv_aload_n hx hb dJ4_init_da8c8_0 rfl (lv_at hl 0 rfl) ?_
  refine lv_bipush (v := (16 : Int32)) hx hb dJ4_init_da8c8_1 (by decide) ?_
  refine w_I (own := RJ4) (cs := [[(h0, .inr (1, [.null, .int (0 : Int32), .int (0 : Int32), .int (0 : Int32)]))]]) (rs := []) (As := [.int (16 : Int32)]) (rest := []) (c_J5_init_d00df l G h0 s.heap.size) ⟨hx, hb, hml, hown, hts⟩ (hts _ u_172) u_174 u_29 u_173 rfl hds_J5_init_d00df hK hST hS hP hD hA [0] [] rfl rfl rfl ⟨Nat.le_of_ble_eq_true rfl, Nat.le_of_ble_eq_true rfl⟩ ⟨Nat.le_of_ble_eq_true rfl, Nat.le_of_ble_eq_true rfl⟩ rfl hl.1 rfl (Nat.le_of_ble_eq_true rfl) dJ4_init_da8c8_3 (fun uu_1 H locs huu hP hD hS => ?_)
  have hP : va_P G.1 vwCl (fl [[(h0, .inr (1, [.ref uu_1, .int (0 : Int32), .int sbZ.2.2.1, .int sbZ.2.2.2]))], [(uu_1, .inl (G.2.1 2, sbZ.1, .inl sbZ.2.1))]]) H := hP
  have hD : va_D A (fl [[(h0, .inr (1, [.ref uu_1, .int (0 : Int32), .int sbZ.2.2.1, .int sbZ.2.2.2]))], [(uu_1, .inl (G.2.1 2, sbZ.1, .inl sbZ.2.1))]]) := hD
  refine W.eq (g2 := F0 m 6 ls []) rfl ?_
  exact w_retV (u := uu_1) hx hb hr hlk hS rfl trivial hP hD (Nat.le_of_ble_eq_true rfl) (Nat.le_of_ble_eq_true rfl) dJ4_init_da8c8_6
theorem dX6_init_0 : decode cX6_init 0 = .ok (.aload_n 0, 1) := by decide +kernel
theorem dX6_init_1 : decode cX6_init 1 = .ok (.invokespecial 3, 3) := by decide +kernel
theorem u_1072 : Cond.methodLink RX6 3 ⟨"java/lang/Object", "<init>", "()V"⟩ ∈ UW := uw 1072 (by decide +kernel) rfl
theorem dX6_init_4 : decode cX6_init 4 = .ok (.aload_n 0, 1) := by decide +kernel
theorem dX6_init_5 : decode cX6_init 5 = .ok (.iconst 0, 1) := by decide +kernel
theorem dX6_init_6 : decode cX6_init 6 = .ok (.putfield 9, 3) := by decide +kernel
theorem dX6_init_9 : decode cX6_init 9 = .ok (.aload_n 0, 1) := by decide +kernel
theorem dX6_init_10 : decode cX6_init 10 = .ok (.iconst 0, 1) := by decide +kernel
theorem dX6_init_11 : decode cX6_init 11 = .ok (.putfield 15, 3) := by decide +kernel
theorem dX6_init_14 : decode cX6_init 14 = .ok (.aload_n 0, 1) := by decide +kernel
theorem dX6_init_15 : decode cX6_init 15 = .ok (.iconst 0, 1) := by decide +kernel
theorem dX6_init_16 : decode cX6_init 16 = .ok (.putfield 18, 3) := by decide +kernel
theorem dX6_init_19 : decode cX6_init 19 = .ok (.aload_n 0, 1) := by decide +kernel
theorem dX6_init_20 : decode cX6_init 20 = .ok (.iconst 0, 1) := by decide +kernel
theorem dX6_init_21 : decode cX6_init 21 = .ok (.putfield 21, 3) := by decide +kernel
theorem dX6_init_24 : decode cX6_init 24 = .ok (.aload_n 0, 1) := by decide +kernel
theorem dX6_init_25 : decode cX6_init 25 = .ok (.new 24, 3) := by decide +kernel
theorem u_1073 : Cond.classLink RX6 24 RJ4 ∈ UW := uw 1073 (by decide +kernel) rfl
theorem u_168 : Cond.instantiable RJ4 4 ∈ UW := uw 168 (by decide +kernel) rfl
theorem dX6_init_28 : decode cX6_init 28 = .ok (.dup, 1) := by decide +kernel
theorem dX6_init_29 : decode cX6_init 29 = .ok (.invokespecial 26, 3) := by decide +kernel
theorem u_171 : Cond.code yJ4_init_da8c8 cJ4_init_da8c8 1 none ∈ UW := uw 171 (by decide +kernel) rfl
theorem u_170 : Cond.instanceMethod yJ4_init_da8c8 ∈ UW := uw 170 (by decide +kernel) rfl
theorem hds_J4_init_da8c8 : yJ4_init_da8c8.cls ≠ "java/lang/invoke/MethodHandle" ∧ yJ4_init_da8c8.cls ≠ "java/lang/invoke/VarHandle" ∧ (parseMethodDescriptor yJ4_init_da8c8.desc).map (fun d => d.parameters.length) = some 0 := by decide +kernel
theorem u_1074 : Cond.methodLink RX6 26 yJ4_init_da8c8 ∈ UW := uw 1074 (by decide +kernel) rfl
theorem dX6_init_32 : decode cX6_init 32 = .ok (.putfield 27, 3) := by decide +kernel
theorem dX6_init_35 : decode cX6_init 35 = .ok (.return_, 1) := by decide +kernel
set_option maxHeartbeats 4000000 in
set_option maxRecDepth 100000 in
theorem c_X6_init (l : Launch) (G : GG) (h0 : Nat) (sz : Nat) : wMet l yX6_init cX6_init 1 none 4 2 20 G (fl [[(h0, .inr (9, [.int (0 : Int32), .int (0 : Int32), .int (0 : Int32), .int (0 : Int32), .null]))]]) [.ref h0] sz (fun u : Nat × Nat => none) (fun u : Nat × Nat => True) (fun u : Nat × Nat => fl [[(h0, .inr (9, [.int (0 : Int32), .int (0 : Int32), .int (0 : Int32), .int (0 : Int32), .ref u.1]))], [(u.1, .inr (1, [.ref u.2, .int (0 : Int32), .int sbZ.2.2.1, .int sbZ.2.2.2]))], [(u.2, .inl (G.2.1 2, sbZ.1, .inl sbZ.2.1))]]) := by
  refine w_start (by decide +kernel) (Nat.le_of_ble_eq_true rfl) ?_
  intro p e s m below meth c A hx hb hr hml hts hown hlk hin hP hD hA hK hST ls hl
  have hS : va_S A s.heap s.heap [] := va_S.rf
  have hown : s.vm.findClass RX6 = some m.cls := hown
  have hl : lv_has ls 1 [(0, .ref h0)] := hl
  refine lv_aload_n hx hb dX6_init_0 rfl (lv_at hl 0 rfl) ?_
  refine W.objInit hx hb hown (hts _ u_1072) (hts _ u_105) (hts _ u_106) rfl (by rw [hml]; exact hl.1) rfl dX6_init_1 (Nat.le_of_ble_eq_true rfl) (Nat.le_of_ble_eq_true rfl) ?_
  refine W.eq (g2 := F0 m 4 ls []) rfl ?_
  refine lv_aload_n hx hb dX6_init_4 rfl (lv_at hl 0 rfl) ?_
  refine lv_iconst (v := (0 : Int32)) hx hb dX6_init_5 (by decide) ?_
  refine va_put (D := G.1) (ci := 9) (v := .int (0 : Int32)) (ty := .int) (C := RX6) (T := TX6) (N := 5) hx hb hts uws_X6 tyX6 tyX6_ok nmX6 hown hK hP hD hS 0 rfl rfl 0 (by decide) (hts _ u_1075) (fun _ h9 => h9) rfl (by decide +kernel) rfl rfl (Nat.le_of_ble_eq_true rfl) dX6_init_6 (fun H locs hP hD hS => ?_)
  have hP : va_P G.1 vwCl (fl [[(h0, .inr (9, [.int (0 : Int32), .int (0 : Int32), .int (0 : Int32), .int (0 : Int32), .null]))]]) H := hP
  have hD : va_D A (fl [[(h0, .inr (9, [.int (0 : Int32), .int (0 : Int32), .int (0 : Int32), .int (0 : Int32), .null]))]]) := hD
  refine lv_aload_n hx hb dX6_init_9 rfl (lv_at hl 0 rfl) ?_
  refine lv_iconst (v := (0 : Int32)) hx hb dX6_init_10 (by decide) ?_
  refine va_put (D := G.1) (ci := 9) (v := .int (0 : Int32)) (ty := .int) (C := RX6) (T := TX6) (N := 5) hx hb hts uws_X6 tyX6 tyX6_ok nmX6 hown hK hP hD hS 0 rfl rfl 1 (by decide) (hts _ u_1077) (fun _ h9 => h9) rfl (by decide +kernel) rfl rfl (Nat.le_of_ble_eq_true rfl) dX6_init_11 (fun H locs hP hD hS => ?_)
  have hP : va_P G.1 vwCl (fl [[(h0, .inr (9, [.int (0 : Int32), .int (0 : Int32), .int (0 : Int32), .int (0 : Int32), .null]))]]) H := hP
  have hD : va_D A (fl [[(h0, .inr (9, [.int (0 : Int32), .int (0 : Int32), .int (0 : Int32), .int (0 : Int32), .null]))]]) := hD
  refine lv_aload_n hx hb dX6_init_14 rfl (lv_at hl 0 rfl) ?_
  refine lv_iconst (v := (0 : Int32)) hx hb dX6_init_15 (by decide) ?_
  refine va_put (D := G.1) (ci := 9) (v := .int (0 : Int32)) (ty := .int) (C := RX6) (T := TX6) (N := 5) hx hb hts uws_X6 tyX6 tyX6_ok nmX6 hown hK hP hD hS 0 rfl rfl 2 (by decide) (hts _ u_1079) (fun _ h9 => h9) rfl (by decide +kernel) rfl rfl (Nat.le_of_ble_eq_true rfl) dX6_init_16 (fun H locs hP hD hS => ?_)
  have hP : va_P G.1 vwCl (fl [[(h0, .inr (9, [.int (0 : Int32), .int (0 : Int32), .int (0 : Int32), .int (0 : Int32), .null]))]]) H := hP
  have hD : va_D A (fl [[(h0, .inr (9, [.int (0 : Int32), .int (0 : Int32), .int (0 : Int32), .int (0 : Int32), .null]))]]) := hD
  refine lv_aload_n hx hb dX6_init_19 rfl (lv_at hl 0 rfl) ?_
  refine lv_iconst (v := (0 : Int32)) hx hb dX6_init_20 (by decide) ?_
  refine va_put (D := G.1) (ci := 9) (v := .int (0 : Int32)) (ty := .int) (C := RX6) (T := TX6) (N := 5) hx hb hts uws_X6 tyX6 tyX6_ok nmX6 hown hK hP hD hS 0 rfl rfl 3 (by decide) (hts _ u_1081) (fun _ h9 => h9) rfl (by decide +kernel) rfl rfl (Nat.le_of_ble_eq_true rfl) dX6_init_21 (fun H locs hP hD hS => ?_)
  have hP : va_P G.1 vwCl (fl [[(h0, .inr (9, [.int (0 : Int32), .int (0 : Int32), .int (0 : Int32), .int (0 : Int32), .null]))]]) H := hP
  have hD : va_D A (fl [[(h0, .inr (9, [.int (0 : Int32), .int (0 : Int32), .int (0 : Int32), .int (0 : Int32), .null]))]]) := hD
  refine lv_aload_n hx hb dX6_init_24 rfl (lv_at hl 0 rfl) ?_
  refine w_newO (own := RX6) (C := RJ4) (T := TJ4) (N := 4) (ci := 1) (fs := [.null, .int (0 : Int32), .int (0 : Int32), .int (0 : Int32)]) hx hb hts uws_J4 tyJ4 tyJ4_ok hown (hts _ u_1073) (hts _ u_168) (hts _ u_30) hK hP hD hS hA rfl (fun j hj => by rcases (show j = 0 ∨ j = 1 ∨ j = 2 ∨ j = 3 by omega) with rfl | rfl | rfl | rfl <;> rfl) (Nat.le_of_ble_eq_true rfl) (Nat.le_of_ble_eq_true rfl) dX6_init_25 (fun q_1 H hP hD hS => ?_)
  have hP : va_P G.1 vwCl (fl [[(h0, .inr (9, [.int (0 : Int32), .int (0 : Int32), .int (0 : Int32), .int (0 : Int32), .null]))], [(q_1, .inr (1, [.null, .int (0 : Int32), .int (0 : Int32), .int (0 : Int32)]))]]) H := hP
  have hD : va_D A (fl [[(h0, .inr (9, [.int (0 : Int32), .int (0 : Int32), .int (0 : Int32), .int (0 : Int32), .null]))], [(q_1, .inr (1, [.null, .int (0 : Int32), .int (0 : Int32), .int (0 : Int32)]))]]) := hD
  refine lv_dup hx hb dX6_init_28 rfl ?_
  refine w_I (own := RX6) (cs := [[(q_1, .inr (1, [.null, .int (0 : Int32), .int (0 : Int32), .int (0 : Int32)]))]]) (rs := [[(h0, .inr (9, [.int (0 : Int32), .int (0 : Int32), .int (0 : Int32), .int (0 : Int32), .null]))]]) (As := []) (rest := [.ref q_1, .ref h0]) (c_J4_init_da8c8 l G q_1 H.size) ⟨hx, hb, hml, hown, hts⟩ (hts _ u_1074) u_171 u_30 u_170 rfl hds_J4_init_da8c8 hK hST hS hP hD hA [1] [0] rfl rfl rfl ⟨Nat.le_of_ble_eq_true rfl, Nat.le_of_ble_eq_true rfl⟩ ⟨Nat.le_of_ble_eq_true rfl, Nat.le_of_ble_eq_true rfl⟩ rfl hl.1 rfl (Nat.le_of_ble_eq_true rfl) dX6_init_29 (fun uu_2 H locs huu hP hD hS => ?_)
  have hP : va_P G.1 vwCl (fl [[(q_1, .inr (1, [.ref uu_2, .int (0 : Int32), .int sbZ.2.2.1, .int sbZ.2.2.2]))], [(uu_2, .inl (G.2.1 2, sbZ.1, .inl sbZ.2.1))], [(h0, .inr (9, [.int (0 : Int32), .int (0 : Int32), .int (0 : Int32), .int (0 : Int32), .null]))]]) H := hP
  have hD : va_D A (fl [[(q_1, .inr (1, [.ref uu_2, .int (0 : Int32), .int sbZ.2.2.1, .int sbZ.2.2.2]))], [(uu_2, .inl (G.2.1 2, sbZ.1, .inl sbZ.2.1))], [(h0, .inr (9, [.int (0 : Int32), .int (0 : Int32), .int (0 : Int32), .int (0 : Int32), .null]))]]) := hD
  refine W.eq (g2 := F0 m 32 ls [.ref q_1, .ref h0]) rfl ?_
  refine va_putF (D := G.1) (ci := 9) (v := .ref q_1) (ty := .object "java/lang/StringBuilder") (C := RX6) (T := TX6) (N := 5) hx hb hts uws_X6 tyX6 tyX6_ok nmX6 hown hK hP hD hS 2 rfl rfl 4 (by decide) (hts _ u_1083) (fun _ h9 => h9) rfl hin rfl (by decide +kernel) rfl rfl (Nat.le_of_ble_eq_true rfl) dX6_init_32 (fun H locs hP hD hS => ?_)
  have hP : va_P G.1 vwCl (fl [[(q_1, .inr (1, [.ref uu_2, .int (0 : Int32), .int sbZ.2.2.1, .int sbZ.2.2.2]))], [(uu_2, .inl (G.2.1 2, sbZ.1, .inl sbZ.2.1))], [(h0, .inr (9, [.int (0 : Int32), .int (0 : Int32), .int (0 : Int32), .int (0 : Int32), .ref q_1]))]]) H := hP
  have hD : va_D A (fl [[(q_1, .inr (1, [.ref uu_2, .int (0 : Int32), .int sbZ.2.2.1, .int sbZ.2.2.2]))], [(uu_2, .inl (G.2.1 2, sbZ.1, .inl sbZ.2.1))], [(h0, .inr (9, [.int (0 : Int32), .int (0 : Int32), .int (0 : Int32), .int (0 : Int32), .ref q_1]))]]) := hD
  have hP := fl_sub (cs := [[(h0, .inr (9, [.int (0 : Int32), .int (0 : Int32), .int (0 : Int32), .int (0 : Int32), .ref q_1]))], [(q_1, .inr (1, [.ref uu_2, .int (0 : Int32), .int sbZ.2.2.1, .int sbZ.2.2.2]))], [(uu_2, .inl (G.2.1 2, sbZ.1, .inl sbZ.2.1))]]) [2, 0, 1] rfl hP
  have hD := fl_subD (cs := [[(h0, .inr (9, [.int (0 : Int32), .int (0 : Int32), .int (0 : Int32), .int (0 : Int32), .ref q_1]))], [(q_1, .inr (1, [.ref uu_2, .int (0 : Int32), .int sbZ.2.2.1, .int sbZ.2.2.2]))], [(uu_2, .inl (G.2.1 2, sbZ.1, .inl sbZ.2.1))]]) [2, 0, 1] rfl rfl hD
  exact w_retV (u := (q_1, uu_2)) hx hb hr hlk hS rfl trivial hP hD (Nat.le_of_ble_eq_true rfl) (Nat.le_of_ble_eq_true rfl) dX6_init_35
