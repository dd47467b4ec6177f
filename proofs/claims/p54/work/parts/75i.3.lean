abbrev pk9 (a0 a1 a2 a3 a4 a5 a6 a7 a8 : Nat → Nat) : Nat → Nat → Nat := fun i => match i with | 0 => a0 | 1 => a1 | 2 => a2 | 3 => a3 | 4 => a4 | 5 => a5 | 6 => a6 | 7 => a7 | _ => a8
theorem dX4_init_0 : decode cX4_init 0 = .ok (.aload_n 0, 1) := by decide +kernel
theorem dX4_init_1 : decode cX4_init 1 = .ok (.invokespecial 3, 3) := by decide +kernel
theorem u_1052 : Cond.methodLink RX4 3 ⟨"java/lang/Object", "<init>", "()V"⟩ ∈ UW := uw 1052 (by decide +kernel) rfl
theorem dX4_init_4 : decode cX4_init 4 = .ok (.aload_n 0, 1) := by decide +kernel
theorem dX4_init_5 : decode cX4_init 5 = .ok (.iconst 0, 1) := by decide +kernel
theorem dX4_init_6 : decode cX4_init 6 = .ok (.putfield 9, 3) := by decide +kernel
theorem dX4_init_9 : decode cX4_init 9 = .ok (.aload_n 0, 1) := by decide +kernel
theorem dX4_init_10 : decode cX4_init 10 = .ok (.iconst 0, 1) := by decide +kernel
theorem dX4_init_11 : decode cX4_init 11 = .ok (.putfield 15, 3) := by decide +kernel
theorem dX4_init_14 : decode cX4_init 14 = .ok (.aload_n 0, 1) := by decide +kernel
theorem dX4_init_15 : decode cX4_init 15 = .ok (.bipush 9, 2) := by decide +kernel
theorem dX4_init_17 : decode cX4_init 17 = .ok (.anewarray 18, 3) := by decide +kernel
theorem u_1053 : Cond.classLink RX4 18 RX8 ∈ UW := uw 1053 (by decide +kernel) rfl
theorem dX4_init_20 : decode cX4_init 20 = .ok (.putfield 20, 3) := by decide +kernel
theorem dX4_init_23 : decode cX4_init 23 = .ok (.iconst 0, 1) := by decide +kernel
theorem dX4_init_24 : decode cX4_init 24 = .ok (.istore_n 1, 1) := by decide +kernel
theorem dX4_init_25 : decode cX4_init 25 = .ok (.iload_n 1, 1) := by decide +kernel
theorem dX4_init_26 : decode cX4_init 26 = .ok (.aload_n 0, 1) := by decide +kernel
theorem dX4_init_27 : decode cX4_init 27 = .ok (.getfield 20, 3) := by decide +kernel
theorem dX4_init_30 : decode cX4_init 30 = .ok (.arraylength, 1) := by decide +kernel
theorem dX4_init_31 : decode cX4_init 31 = .ok (.if_icmp .ge 22, 3) := by decide +kernel
theorem dX4_init_34 : decode cX4_init 34 = .ok (.aload_n 0, 1) := by decide +kernel
theorem dX4_init_35 : decode cX4_init 35 = .ok (.getfield 20, 3) := by decide +kernel
theorem dX4_init_38 : decode cX4_init 38 = .ok (.iload_n 1, 1) := by decide +kernel
theorem dX4_init_39 : decode cX4_init 39 = .ok (.new 18, 3) := by decide +kernel
theorem u_868 : Cond.instantiable RX8 6 ∈ UW := uw 868 (by decide +kernel) rfl
theorem dX4_init_42 : decode cX4_init 42 = .ok (.dup, 1) := by decide +kernel
theorem dX4_init_43 : decode cX4_init 43 = .ok (.invokespecial 24, 3) := by decide +kernel
theorem u_933 : Cond.code yX8_init cX8_init 1 none ∈ UW := uw 933 (by decide +kernel) rfl
theorem u_932 : Cond.instanceMethod yX8_init ∈ UW := uw 932 (by decide +kernel) rfl
theorem hds_X8_init : yX8_init.cls ≠ "java/lang/invoke/MethodHandle" ∧ yX8_init.cls ≠ "java/lang/invoke/VarHandle" ∧ (parseMethodDescriptor yX8_init.desc).map (fun d => d.parameters.length) = some 0 := by decide +kernel
theorem gN_X4_24 : Cond.methodLinkNest RX4 24 yX8_init "MoonlitDoors" ∈ MW := mw 1055 (by decide +kernel) rfl
theorem dX4_init_46 : decode cX4_init 46 = .ok (.aastore, 1) := by decide +kernel
theorem dX4_init_47 : decode cX4_init 47 = .ok (.iinc 1 1, 3) := by decide +kernel
theorem dX4_init_50 : decode cX4_init 50 = .ok (.goto (-25), 3) := by decide +kernel
theorem dX4_init_53 : decode cX4_init 53 = .ok (.return_, 1) := by decide +kernel
set_option maxHeartbeats 4000000 in
set_option maxRecDepth 100000 in
theorem c_X4_init (l : Launch) (G : GG) (h0 : Nat) (sz : Nat) : wMet l yX4_init cX4_init 2 none 4 181 2421 G (fl [[(h0, .inr (7, [.int (0 : Int32), .int (0 : Int32), .null]))]]) [.ref h0] sz (fun u : Nat × (Nat → Nat → Nat) => none) (fun u : Nat × (Nat → Nat → Nat) => True) (fun u : Nat × (Nat → Nat → Nat) => fl [[(h0, .inr (7, [.int (0 : Int32), .int (0 : Int32), .ref u.1]))], wHs G u.1 u.2 (fun _ => stZ)]) := by
  refine w_start (by decide +kernel) (Nat.le_of_ble_eq_true rfl) ?_
  intro p e s m below meth c A hx hb hr hml hts hown hlk hin hP hD hA hK hST ls hl
  have hS : va_S A s.heap s.heap [] := va_S.rf
  have hown : s.vm.findClass RX4 = some m.cls := hown
  have hl : lv_has ls 2 [(0, .ref h0)] := hl
  refine lv_aload_n hx hb dX4_init_0 rfl (lv_at hl 0 rfl) ?_
  refine W.objInit hx hb hown (hts _ u_1052) (hts _ u_105) (hts _ u_106) rfl (by rw [hml]; exact hl.1) rfl dX4_init_1 (Nat.le_of_ble_eq_true rfl) (Nat.le_of_ble_eq_true rfl) ?_
  refine W.eq (g2 := F0 m 4 ls []) rfl ?_
  refine lv_aload_n hx hb dX4_init_4 rfl (lv_at hl 0 rfl) ?_
  refine lv_iconst (v := (0 : Int32)) hx hb dX4_init_5 (by decide) ?_
  refine va_put (D := G.1) (ci := 7) (v := .int (0 : Int32)) (ty := .int) (C := RX4) (T := TX4) (N := 3) hx hb hts uws_X4 tyX4 tyX4_ok nmX4 hown hK hP hD hS 0 rfl rfl 0 (by decide) (hts _ u_1056) (fun _ h9 => h9) rfl (by decide +kernel) rfl rfl (Nat.le_of_ble_eq_true rfl) dX4_init_6 (fun H locs hP hD hS => ?_)
  have hP : va_P G.1 vwCl (fl [[(h0, .inr (7, [.int (0 : Int32), .int (0 : Int32), .null]))]]) H := hP
  have hD : va_D A (fl [[(h0, .inr (7, [.int (0 : Int32), .int (0 : Int32), .null]))]]) := hD
  refine lv_aload_n hx hb dX4_init_9 rfl (lv_at hl 0 rfl) ?_
  refine lv_iconst (v := (0 : Int32)) hx hb dX4_init_10 (by decide) ?_
  refine va_put (D := G.1) (ci := 7) (v := .int (0 : Int32)) (ty := .int) (C := RX4) (T := TX4) (N := 3) hx hb hts uws_X4 tyX4 tyX4_ok nmX4 hown hK hP hD hS 0 rfl rfl 1 (by decide) (hts _ u_1058) (fun _ h9 => h9) rfl (by decide +kernel) rfl rfl (Nat.le_of_ble_eq_true rfl) dX4_init_11 (fun H locs hP hD hS => ?_)
  have hP : va_P G.1 vwCl (fl [[(h0, .inr (7, [.int (0 : Int32), .int (0 : Int32), .null]))]]) H := hP
  have hD : va_D A (fl [[(h0, .inr (7, [.int (0 : Int32), .int (0 : Int32), .null]))]]) := hD
  refine lv_aload_n hx hb dX4_init_14 rfl (lv_at hl 0 rfl) ?_
  refine lv_bipush (v := (9 : Int32)) hx hb dX4_init_15 (by decide) ?_
  refine w_newR (N := 9) hx hb hown (hts _ u_1053) (hST.2.2.2.2.2.2.2.1 _ (cwm 1054 (by decide +kernel) rfl)) hK hP hD hS hA (by decide) (by decide) (by decide) (Nat.le_of_ble_eq_true rfl) (Nat.le_of_ble_eq_true rfl) dX4_init_17 (fun q_1 H hP hD hS => ?_)
  have hP : va_P G.1 vwCl (fl [[(h0, .inr (7, [.int (0 : Int32), .int (0 : Int32), .null]))], [(q_1, .inl (G.2.1 1, 9, .inr (.inr (.inr (.inr (fun _ => none))))))]]) H := hP
  have hD : va_D A (fl [[(h0, .inr (7, [.int (0 : Int32), .int (0 : Int32), .null]))], [(q_1, .inl (G.2.1 1, 9, .inr (.inr (.inr (.inr (fun _ => none))))))]]) := hD
  refine va_putF (D := G.1) (ci := 7) (v := .ref q_1) (ty := .array (.object "MoonlitDoors$State")) (C := RX4) (T := TX4) (N := 3) hx hb hts uws_X4 tyX4 tyX4_ok nmX4 hown hK hP hD hS 0 rfl rfl 2 (by decide) (hts _ u_1059) (fun _ h9 => h9) rfl hin rfl (by decide +kernel) rfl rfl (Nat.le_of_ble_eq_true rfl) dX4_init_20 (fun H locs hP hD hS => ?_)
  have hP : va_P G.1 vwCl (fl [[(h0, .inr (7, [.int (0 : Int32), .int (0 : Int32), .ref q_1]))], [(q_1, .inl (G.2.1 1, 9, .inr (.inr (.inr (.inr (fun _ => none))))))]]) H := hP
  have hD : va_D A (fl [[(h0, .inr (7, [.int (0 : Int32), .int (0 : Int32), .ref q_1]))], [(q_1, .inl (G.2.1 1, 9, .inr (.inr (.inr (.inr (fun _ => none))))))]]) := hD
  refine lv_iconst (v := (0 : Int32)) hx hb dX4_init_23 (by decide) ?_
  refine lv_istore_n (lv' := [(1, .int (0 : Int32)), (0, .ref h0)]) hx hb dX4_init_24 rfl hl (by decide) rfl (fun ls hl => ?_)
  refine lv_iload_n hx hb dX4_init_25 rfl (lv_at hl 0 rfl) ?_
  refine lv_aload_n hx hb dX4_init_26 rfl (lv_at hl 1 rfl) ?_
  refine va_get (D := G.1) (ci := 7) (v := .ref q_1) (C := RX4) (T := TX4) (N := 3) hx hb hts uws_X4 hown hK hP 0 rfl rfl 2 (by decide) (hts _ u_1059) (fun _ h9 => h9) rfl dX4_init_27 ?_
  refine va_alen (v := (9 : Int32)) hx hb hK hP 1 1 rfl rfl rfl dX4_init_30 ?_
  refine lv_icmp_ge (tgt := 53) hx hb dX4_init_31 (by decide) (fun c_2 => ?_) (fun c_2 => ?_)
  · exact absurd c_2 (by decide)
  · refine lv_aload_n hx hb dX4_init_34 rfl (lv_at hl 1 rfl) ?_
    refine va_get (D := G.1) (ci := 7) (v := .ref q_1) (C := RX4) (T := TX4) (N := 3) hx hb hts uws_X4 hown hK hP 0 rfl rfl 2 (by decide) (hts _ u_1059) (fun _ h9 => h9) rfl dX4_init_35 ?_
    refine lv_iload_n hx hb dX4_init_38 rfl (lv_at hl 0 rfl) ?_
    refine w_newO (own := RX4) (C := RX8) (T := TX8) (N := 6) (ci := 10) (fs := [.int (0 : Int32), .int (0 : Int32), .null, .null, .null, .null]) hx hb hts uws_X8 tyX8 tyX8_ok hown (hts _ u_1053) (hts _ u_868) (hts _ u_22) hK hP hD hS hA rfl (fun j hj => by rcases (show j = 0 ∨ j = 1 ∨ j = 2 ∨ j = 3 ∨ j = 4 ∨ j = 5 by omega) with rfl | rfl | rfl | rfl | rfl | rfl <;> rfl) (Nat.le_of_ble_eq_true rfl) (Nat.le_of_ble_eq_true rfl) dX4_init_39 (fun q_3 H hP hD hS => ?_)
    have hP : va_P G.1 vwCl (fl [[(h0, .inr (7, [.int (0 : Int32), .int (0 : Int32), .ref q_1]))], [(q_1, .inl (G.2.1 1, 9, .inr (.inr (.inr (.inr (fun _ => none))))))], [(q_3, .inr (10, [.int (0 : Int32), .int (0 : Int32), .null, .null, .null, .null]))]]) H := hP
    have hD : va_D A (fl [[(h0, .inr (7, [.int (0 : Int32), .int (0 : Int32), .ref q_1]))], [(q_1, .inl (G.2.1 1, 9, .inr (.inr (.inr (.inr (fun _ => none))))))], [(q_3, .inr (10, [.int (0 : Int32), .int (0 : Int32), .null, .null, .null, .null]))]]) := hD
    refine lv_dup hx hb dX4_init_42 rfl ?_
    refine w_IN (own := RX4) (cs := [[(q_3, .inr (10, [.int (0 : Int32), .int (0 : Int32), .null, .null, .null, .null]))]]) (rs := [[(h0, .inr (7, [.int (0 : Int32), .int (0 : Int32), .ref q_1]))], [(q_1, .inl (G.2.1 1, 9, .inr (.inr (.inr (.inr (fun _ => none))))))]]) (As := []) (rest := [.ref q_3, .int (0 : Int32), .ref q_1]) (c_X8_init l G q_3 H.size) ⟨hx, hb, hml, hown, hts⟩ (hST.mw gN_X4_24) u_933 u_22 u_932 rfl hds_X8_init hK hST hS hP hD hA [2] [0, 1] rfl rfl rfl ⟨Nat.le_of_ble_eq_true rfl, Nat.le_of_ble_eq_true rfl⟩ ⟨Nat.le_of_ble_eq_true rfl, Nat.le_of_ble_eq_true rfl⟩ rfl hl.1 rfl (Nat.le_of_ble_eq_true rfl) dX4_init_43 (fun uu_4 H locs huu hP hD hS => ?_)
    have huu : uu_4 0 = q_3 := huu
    have hP9 := hP
    have hD9 := hD
    have hS9 := hS
    subst huu
    have hP := hP9
    have hD := hD9
    have hS := hS9
    have hP : va_P G.1 vwCl (fl [wSt G uu_4 stZ, [(h0, .inr (7, [.int (0 : Int32), .int (0 : Int32), .ref q_1]))], [(q_1, .inl (G.2.1 1, 9, .inr (.inr (.inr (.inr (fun _ => none))))))]]) H := hP
    have hD : va_D A (fl [wSt G uu_4 stZ, [(h0, .inr (7, [.int (0 : Int32), .int (0 : Int32), .ref q_1]))], [(q_1, .inl (G.2.1 1, 9, .inr (.inr (.inr (.inr (fun _ => none))))))]]) := hD
    refine W.eq (g2 := F0 m 46 ls [.ref (uu_4 0), .int (0 : Int32), .ref q_1]) rfl ?_
    refine va_astq hx hb hK hP hD hS 21 1 0 10 rfl rfl rfl rfl (vp_in_nI (n := 0) (by decide) (by decide)) dX4_init_46 (fun H locs hP hD hS => ?_)
    have hP : va_P G.1 vwCl (fl [wSt G uu_4 stZ, [(h0, .inr (7, [.int (0 : Int32), .int (0 : Int32), .ref q_1]))], [(q_1, .inl (G.2.1 1, 9, .inr (.inr (.inr (.inr (va_up (fun _ => none) (0 : Int32).toNatClampNeg (some (uu_4 0))))))))]]) H := hP
    have hD : va_D A (fl [wSt G uu_4 stZ, [(h0, .inr (7, [.int (0 : Int32), .int (0 : Int32), .ref q_1]))], [(q_1, .inl (G.2.1 1, 9, .inr (.inr (.inr (.inr (va_up (fun _ => none) (0 : Int32).toNatClampNeg (some (uu_4 0))))))))]]) := hD
    refine lv_iinc (v := (1 : Int32)) (lv' := [(1, .int (1 : Int32)), (0, .ref h0)]) hx hb dX4_init_47 hl (k := 0) rfl rfl (by decide) rfl (fun ls hl => ?_)
    refine lv_goto (tgt := 25) hx hb dX4_init_50 (by decide) ?_
    refine lv_iload_n hx hb dX4_init_25 rfl (lv_at hl 0 rfl) ?_
    refine lv_aload_n hx hb dX4_init_26 rfl (lv_at hl 1 rfl) ?_
    refine va_get (D := G.1) (ci := 7) (v := .ref q_1) (C := RX4) (T := TX4) (N := 3) hx hb hts uws_X4 hown hK hP 20 rfl rfl 2 (by decide) (hts _ u_1059) (fun _ h9 => h9) rfl dX4_init_27 ?_
    refine va_alen (v := (9 : Int32)) hx hb hK hP 21 1 rfl rfl rfl dX4_init_30 ?_
    refine lv_icmp_ge (tgt := 53) hx hb dX4_init_31 (by decide) (fun c_5 => ?_) (fun c_5 => ?_)
    · exact absurd c_5 (by decide)
    · refine lv_aload_n hx hb dX4_init_34 rfl (lv_at hl 1 rfl) ?_
      refine va_get (D := G.1) (ci := 7) (v := .ref q_1) (C := RX4) (T := TX4) (N := 3) hx hb hts uws_X4 hown hK hP 20 rfl rfl 2 (by decide) (hts _ u_1059) (fun _ h9 => h9) rfl dX4_init_35 ?_
      refine lv_iload_n hx hb dX4_init_38 rfl (lv_at hl 0 rfl) ?_
      refine w_newO (own := RX4) (C := RX8) (T := TX8) (N := 6) (ci := 10) (fs := [.int (0 : Int32), .int (0 : Int32), .null, .null, .null, .null]) hx hb hts uws_X8 tyX8 tyX8_ok hown (hts _ u_1053) (hts _ u_868) (hts _ u_22) hK hP hD hS hA rfl (fun j hj => by rcases (show j = 0 ∨ j = 1 ∨ j = 2 ∨ j = 3 ∨ j = 4 ∨ j = 5 by omega) with rfl | rfl | rfl | rfl | rfl | rfl <;> rfl) (Nat.le_of_ble_eq_true rfl) (Nat.le_of_ble_eq_true rfl) dX4_init_39 (fun q_6 H hP hD hS => ?_)
      have hP : va_P G.1 vwCl (fl [wSt G uu_4 stZ, [(h0, .inr (7, [.int (0 : Int32), .int (0 : Int32), .ref q_1]))], [(q_1, .inl (G.2.1 1, 9, .inr (.inr (.inr (.inr (va_up (fun _ => none) (0 : Int32).toNatClampNeg (some (uu_4 0))))))))], [(q_6, .inr (10, [.int (0 : Int32), .int (0 : Int32), .null, .null, .null, .null]))]]) H := hP
      have hD : va_D A (fl [wSt G uu_4 stZ, [(h0, .inr (7, [.int (0 : Int32), .int (0 : Int32), .ref q_1]))], [(q_1, .inl (G.2.1 1, 9, .inr (.inr (.inr (.inr (va_up (fun _ => none) (0 : Int32).toNatClampNeg (some (uu_4 0))))))))], [(q_6, .inr (10, [.int (0 : Int32), .int (0 : Int32), .null, .null, .null, .null]))]]) := hD
      refine lv_dup hx hb dX4_init_42 rfl ?_
      refine w_IN (own := RX4) (cs := [[(q_6, .inr (10, [.int (0 : Int32), .int (0 : Int32), .null, .null, .null, .null]))]]) (rs := [wSt G uu_4 stZ, [(h0, .inr (7, [.int (0 : Int32), .int (0 : Int32), .ref q_1]))], [(q_1, .inl (G.2.1 1, 9, .inr (.inr (.inr (.inr (va_up (fun _ => none) (0 : Int32).toNatClampNeg (some (uu_4 0))))))))]]) (As := []) (rest := [.ref q_6, .int (1 : Int32), .ref q_1]) (c_X8_init l G q_6 H.size) ⟨hx, hb, hml, hown, hts⟩ (hST.mw gN_X4_24) u_933 u_22 u_932 rfl hds_X8_init hK hST hS hP hD hA [3] [0, 1, 2] rfl rfl rfl ⟨Nat.le_of_ble_eq_true rfl, Nat.le_of_ble_eq_true rfl⟩ ⟨Nat.le_of_ble_eq_true rfl, Nat.le_of_ble_eq_true rfl⟩ rfl hl.1 rfl (Nat.le_of_ble_eq_true rfl) dX4_init_43 (fun uu_7 H locs huu hP hD hS => ?_)
      have huu : uu_7 0 = q_6 := huu
      have hP9 := hP
      have hD9 := hD
      have hS9 := hS
      subst huu
      have hP := hP9
      have hD := hD9
      have hS := hS9
      have hP : va_P G.1 vwCl (fl [wSt G uu_7 stZ, wSt G uu_4 stZ, [(h0, .inr (7, [.int (0 : Int32), .int (0 : Int32), .ref q_1]))], [(q_1, .inl (G.2.1 1, 9, .inr (.inr (.inr (.inr (va_up (fun _ => none) (0 : Int32).toNatClampNeg (some (uu_4 0))))))))]]) H := hP
      have hD : va_D A (fl [wSt G uu_7 stZ, wSt G uu_4 stZ, [(h0, .inr (7, [.int (0 : Int32), .int (0 : Int32), .ref q_1]))], [(q_1, .inl (G.2.1 1, 9, .inr (.inr (.inr (.inr (va_up (fun _ => none) (0 : Int32).toNatClampNeg (some (uu_4 0))))))))]]) := hD
      refine W.eq (g2 := F0 m 46 ls [.ref (uu_7 0), .int (1 : Int32), .ref q_1]) rfl ?_
      refine va_astq hx hb hK hP hD hS 41 1 0 10 rfl rfl rfl rfl (vp_in_nI (n := 1) (by decide) (by decide)) dX4_init_46 (fun H locs hP hD hS => ?_)
      have hP : va_P G.1 vwCl (fl [wSt G uu_7 stZ, wSt G uu_4 stZ, [(h0, .inr (7, [.int (0 : Int32), .int (0 : Int32), .ref q_1]))], [(q_1, .inl (G.2.1 1, 9, .inr (.inr (.inr (.inr (va_up (va_up (fun _ => none) (0 : Int32).toNatClampNeg (some (uu_4 0))) (1 : Int32).toNatClampNeg (some (uu_7 0))))))))]]) H := hP
      have hD : va_D A (fl [wSt G uu_7 stZ, wSt G uu_4 stZ, [(h0, .inr (7, [.int (0 : Int32), .int (0 : Int32), .ref q_1]))], [(q_1, .inl (G.2.1 1, 9, .inr (.inr (.inr (.inr (va_up (va_up (fun _ => none) (0 : Int32).toNatClampNeg (some (uu_4 0))) (1 : Int32).toNatClampNeg (some (uu_7 0))))))))]]) := hD
      refine lv_iinc (v := (2 : Int32)) (lv' := [(1, .int (2 : Int32)), (0, .ref h0)]) hx hb dX4_init_47 hl (k := 0) rfl rfl (by decide) rfl (fun ls hl => ?_)
      refine lv_goto (tgt := 25) hx hb dX4_init_50 (by decide) ?_
      refine lv_iload_n hx hb dX4_init_25 rfl (lv_at hl 0 rfl) ?_
      refine lv_aload_n hx hb dX4_init_26 rfl (lv_at hl 1 rfl) ?_
      refine va_get (D := G.1) (ci := 7) (v := .ref q_1) (C := RX4) (T := TX4) (N := 3) hx hb hts uws_X4 hown hK hP 40 rfl rfl 2 (by decide) (hts _ u_1059) (fun _ h9 => h9) rfl dX4_init_27 ?_
      refine va_alen (v := (9 : Int32)) hx hb hK hP 41 1 rfl rfl rfl dX4_init_30 ?_
      refine lv_icmp_ge (tgt := 53) hx hb dX4_init_31 (by decide) (fun c_8 => ?_) (fun c_8 => ?_)
      · exact absurd c_8 (by decide)
      · refine lv_aload_n hx hb dX4_init_34 rfl (lv_at hl 1 rfl) ?_
        refine va_get (D := G.1) (ci := 7) (v := .ref q_1) (C := RX4) (T := TX4) (N := 3) hx hb hts uws_X4 hown hK hP 40 rfl rfl 2 (by decide) (hts _ u_1059) (fun _ h9 => h9) rfl dX4_init_35 ?_
        refine lv_iload_n hx hb dX4_init_38 rfl (lv_at hl 0 rfl) ?_
        refine w_newO (own := RX4) (C := RX8) (T := TX8) (N := 6) (ci := 10) (fs := [.int (0 : Int32), .int (0 : Int32), .null, .null, .null, .null]) hx hb hts uws_X8 tyX8 tyX8_ok hown (hts _ u_1053) (hts _ u_868) (hts _ u_22) hK hP hD hS hA rfl (fun j hj => by rcases (show j = 0 ∨ j = 1 ∨ j = 2 ∨ j = 3 ∨ j = 4 ∨ j = 5 by omega) with rfl | rfl | rfl | rfl | rfl | rfl <;> rfl) (Nat.le_of_ble_eq_true rfl) (Nat.le_of_ble_eq_true rfl) dX4_init_39 (fun q_9 H hP hD hS => ?_)
        have hP : va_P G.1 vwCl (fl [wSt G uu_7 stZ, wSt G uu_4 stZ, [(h0, .inr (7, [.int (0 : Int32), .int (0 : Int32), .ref q_1]))], [(q_1, .inl (G.2.1 1, 9, .inr (.inr (.inr (.inr (va_up (va_up (fun _ => none) (0 : Int32).toNatClampNeg (some (uu_4 0))) (1 : Int32).toNatClampNeg (some (uu_7 0))))))))], [(q_9, .inr (10, [.int (0 : Int32), .int (0 : Int32), .null, .null, .null, .null]))]]) H := hP
        have hD : va_D A (fl [wSt G uu_7 stZ, wSt G uu_4 stZ, [(h0, .inr (7, [.int (0 : Int32), .int (0 : Int32), .ref q_1]))], [(q_1, .inl (G.2.1 1, 9, .inr (.inr (.inr (.inr (va_up (va_up (fun _ => none) (0 : Int32).toNatClampNeg (some (uu_4 0))) (1 : Int32).toNatClampNeg (some (uu_7 0))))))))], [(q_9, .inr (10, [.int (0 : Int32), .int (0 : Int32), .null, .null, .null, .null]))]]) := hD
        refine lv_dup hx hb dX4_init_42 rfl ?_
        refine w_IN (own := RX4) (cs := [[(q_9, .inr (10, [.int (0 : Int32), .int (0 : Int32), .null, .null, .null, .null]))]]) (rs := [wSt G uu_7 stZ, wSt G uu_4 stZ, [(h0, .inr (7, [.int (0 : Int32), .int (0 : Int32), .ref q_1]))], [(q_1, .inl (G.2.1 1, 9, .inr (.inr (.inr (.inr (va_up (va_up (fun _ => none) (0 : Int32).toNatClampNeg (some (uu_4 0))) (1 : Int32).toNatClampNeg (some (uu_7 0))))))))]]) (As := []) (rest := [.ref q_9, .int (2 : Int32), .ref q_1]) (c_X8_init l G q_9 H.size) ⟨hx, hb, hml, hown, hts⟩ (hST.mw gN_X4_24) u_933 u_22 u_932 rfl hds_X8_init hK hST hS hP hD hA [4] [0, 1, 2, 3] rfl rfl rfl ⟨Nat.le_of_ble_eq_true rfl, Nat.le_of_ble_eq_true rfl⟩ ⟨Nat.le_of_ble_eq_true rfl, Nat.le_of_ble_eq_true rfl⟩ rfl hl.1 rfl (Nat.le_of_ble_eq_true rfl) dX4_init_43 (fun uu_10 H locs huu hP hD hS => ?_)
        have huu : uu_10 0 = q_9 := huu
        have hP9 := hP
        have hD9 := hD
        have hS9 := hS
        subst huu
        have hP := hP9
        have hD := hD9
        have hS := hS9
        have hP : va_P G.1 vwCl (fl [wSt G uu_10 stZ, wSt G uu_7 stZ, wSt G uu_4 stZ, [(h0, .inr (7, [.int (0 : Int32), .int (0 : Int32), .ref q_1]))], [(q_1, .inl (G.2.1 1, 9, .inr (.inr (.inr (.inr (va_up (va_up (fun _ => none) (0 : Int32).toNatClampNeg (some (uu_4 0))) (1 : Int32).toNatClampNeg (some (uu_7 0))))))))]]) H := hP
        have hD : va_D A (fl [wSt G uu_10 stZ, wSt G uu_7 stZ, wSt G uu_4 stZ, [(h0, .inr (7, [.int (0 : Int32), .int (0 : Int32), .ref q_1]))], [(q_1, .inl (G.2.1 1, 9, .inr (.inr (.inr (.inr (va_up (va_up (fun _ => none) (0 : Int32).toNatClampNeg (some (uu_4 0))) (1 : Int32).toNatClampNeg (some (uu_7 0))))))))]]) := hD
        refine W.eq (g2 := F0 m 46 ls [.ref (uu_10 0), .int (2 : Int32), .ref q_1]) rfl ?_
        refine va_astq hx hb hK hP hD hS 61 1 0 10 rfl rfl rfl rfl (vp_in_nI (n := 2) (by decide) (by decide)) dX4_init_46 (fun H locs hP hD hS => ?_)
        have hP : va_P G.1 vwCl (fl [wSt G uu_10 stZ, wSt G uu_7 stZ, wSt G uu_4 stZ, [(h0, .inr (7, [.int (0 : Int32), .int (0 : Int32), .ref q_1]))], [(q_1, .inl (G.2.1 1, 9, .inr (.inr (.inr (.inr (va_up (va_up (va_up (fun _ => none) (0 : Int32).toNatClampNeg (some (uu_4 0))) (1 : Int32).toNatClampNeg (some (uu_7 0))) (2 : Int32).toNatClampNeg (some (uu_10 0))))))))]]) H := hP
        have hD : va_D A (fl [wSt G uu_10 stZ, wSt G uu_7 stZ, wSt G uu_4 stZ, [(h0, .inr (7, [.int (0 : Int32), .int (0 : Int32), .ref q_1]))], [(q_1, .inl (G.2.1 1, 9, .inr (.inr (.inr (.inr (va_up (va_up (va_up (fun _ => none) (0 : Int32).toNatClampNeg (some (uu_4 0))) (1 : Int32).toNatClampNeg (some (uu_7 0))) (2 : Int32).toNatClampNeg (some (uu_10 0))))))))]]) := hD
        refine lv_iinc (v := (3 : Int32)) (lv' := [(1, .int (3 : Int32)), (0, .ref h0)]) hx hb dX4_init_47 hl (k := 0) rfl rfl (by decide) rfl (fun ls hl => ?_)
        refine lv_goto (tgt := 25) hx hb dX4_init_50 (by decide) ?_
        refine lv_iload_n hx hb dX4_init_25 rfl (lv_at hl 0 rfl) ?_
        refine lv_aload_n hx hb dX4_init_26 rfl (lv_at hl 1 rfl) ?_
        refine va_get (D := G.1) (ci := 7) (v := .ref q_1) (C := RX4) (T := TX4) (N := 3) hx hb hts uws_X4 hown hK hP 60 rfl rfl 2 (by decide) (hts _ u_1059) (fun _ h9 => h9) rfl dX4_init_27 ?_
        refine va_alen (v := (9 : Int32)) hx hb hK hP 61 1 rfl rfl rfl dX4_init_30 ?_
        refine lv_icmp_ge (tgt := 53) hx hb dX4_init_31 (by decide) (fun c_11 => ?_) (fun c_11 => ?_)
        · exact absurd c_11 (by decide)
        · refine lv_aload_n hx hb dX4_init_34 rfl (lv_at hl 1 rfl) ?_
          refine va_get (D := G.1) (ci := 7) (v := .ref q_1) (C := RX4) (T := TX4) (N := 3) hx hb hts uws_X4 hown hK hP 60 rfl rfl 2 (by decide) (hts _ u_1059) (fun _ h9 => h9) rfl dX4_init_35 ?_
          refine lv_iload_n hx hb dX4_init_38 rfl (lv_at hl 0 rfl) ?_
          refine w_newO (own := RX4) (C := RX8) (T := TX8) (N := 6) (ci := 10) (fs := [.int (0 : Int32), .int (0 : Int32), .null, .null, .null, .null]) hx hb hts uws_X8 tyX8 tyX8_ok hown (hts _ u_1053) (hts _ u_868) (hts _ u_22) hK hP hD hS hA rfl (fun j hj => by rcases (show j = 0 ∨ j = 1 ∨ j = 2 ∨ j = 3 ∨ j = 4 ∨ j = 5 by omega) with rfl | rfl | rfl | rfl | rfl | rfl <;> rfl) (Nat.le_of_ble_eq_true rfl) (Nat.le_of_ble_eq_true rfl) dX4_init_39 (fun q_12 H hP hD hS => ?_)
          have hP : va_P G.1 vwCl (fl [wSt G uu_10 stZ, wSt G uu_7 stZ, wSt G uu_4 stZ, [(h0, .inr (7, [.int (0 : Int32), .int (0 : Int32), .ref q_1]))], [(q_1, .inl (G.2.1 1, 9, .inr (.inr (.inr (.inr (va_up (va_up (va_up (fun _ => none) (0 : Int32).toNatClampNeg (some (uu_4 0))) (1 : Int32).toNatClampNeg (some (uu_7 0))) (2 : Int32).toNatClampNeg (some (uu_10 0))))))))], [(q_12, .inr (10, [.int (0 : Int32), .int (0 : Int32), .null, .null, .null, .null]))]]) H := hP
          have hD : va_D A (fl [wSt G uu_10 stZ, wSt G uu_7 stZ, wSt G uu_4 stZ, [(h0, .inr (7, [.int (0 : Int32), .int (0 : Int32), .ref q_1]))], [(q_1, .inl (G.2.1 1, 9, .inr (.inr (.inr (.inr (va_up (va_up (va_up (fun _ => none) (0 : Int32).toNatClampNeg (some (uu_4 0))) (1 : Int32).toNatClampNeg (some (uu_7 0))) (2 : Int32).toNatClampNeg (some (uu_10 0))))))))], [(q_12, .inr (10, [.int (0 : Int32), .int (0 : Int32), .null, .null, .null, .null]))]]) := hD
          refine lv_dup hx hb dX4_init_42 rfl ?_
          refine w_IN (own := RX4) (cs := [[(q_12, .inr (10, [.int (0 : Int32), .int (0 : Int32), .null, .null, .null, .null]))]]) (rs := [wSt G uu_10 stZ, wSt G uu_7 stZ, wSt G uu_4 stZ, [(h0, .inr (7, [.int (0 : Int32), .int (0 : Int32), .ref q_1]))], [(q_1, .inl (G.2.1 1, 9, .inr (.inr (.inr (.inr (va_up (va_up (va_up (fun _ => none) (0 : Int32).toNatClampNeg (some (uu_4 0))) (1 : Int32).toNatClampNeg (some (uu_7 0))) (2 : Int32).toNatClampNeg (some (uu_10 0))))))))]]) (As := []) (rest := [.ref q_12, .int (3 : Int32), .ref q_1]) (c_X8_init l G q_12 H.size) ⟨hx, hb, hml, hown, hts⟩ (hST.mw gN_X4_24) u_933 u_22 u_932 rfl hds_X8_init hK hST hS hP hD hA [5] [0, 1, 2, 3, 4] rfl rfl rfl ⟨Nat.le_of_ble_eq_true rfl, Nat.le_of_ble_eq_true rfl⟩ ⟨Nat.le_of_ble_eq_true rfl, Nat.le_of_ble_eq_true rfl⟩ rfl hl.1 rfl (Nat.le_of_ble_eq_true rfl) dX4_init_43 (fun uu_13 H locs huu hP hD hS => ?_)
          have huu : uu_13 0 = q_12 := huu
          have hP9 := hP
          have hD9 := hD
          have hS9 := hS
          subst huu
          have hP := hP9
          have hD := hD9
          have hS := hS9
          have hP : va_P G.1 vwCl (fl [wSt G uu_13 stZ, wSt G uu_10 stZ, wSt G uu_7 stZ, wSt G uu_4 stZ, [(h0, .inr (7, [.int (0 : Int32), .int (0 : Int32), .ref q_1]))], [(q_1, .inl (G.2.1 1, 9, .inr (.inr (.inr (.inr (va_up (va_up (va_up (fun _ => none) (0 : Int32).toNatClampNeg (some (uu_4 0))) (1 : Int32).toNatClampNeg (some (uu_7 0))) (2 : Int32).toNatClampNeg (some (uu_10 0))))))))]]) H := hP
          have hD : va_D A (fl [wSt G uu_13 stZ, wSt G uu_10 stZ, wSt G uu_7 stZ, wSt G uu_4 stZ, [(h0, .inr (7, [.int (0 : Int32), .int (0 : Int32), .ref q_1]))], [(q_1, .inl (G.2.1 1, 9, .inr (.inr (.inr (.inr (va_up (va_up (va_up (fun _ => none) (0 : Int32).toNatClampNeg (some (uu_4 0))) (1 : Int32).toNatClampNeg (some (uu_7 0))) (2 : Int32).toNatClampNeg (some (uu_10 0))))))))]]) := hD
          refine W.eq (g2 := F0 m 46 ls [.ref (uu_13 0), .int (3 : Int32), .ref q_1]) rfl ?_
          refine va_astq hx hb hK hP hD hS 81 1 0 10 rfl rfl rfl rfl (vp_in_nI (n := 3) (by decide) (by decide)) dX4_init_46 (fun H locs hP hD hS => ?_)
          have hP : va_P G.1 vwCl (fl [wSt G uu_13 stZ, wSt G uu_10 stZ, wSt G uu_7 stZ, wSt G uu_4 stZ, [(h0, .inr (7, [.int (0 : Int32), .int (0 : Int32), .ref q_1]))], [(q_1, .inl (G.2.1 1, 9, .inr (.inr (.inr (.inr (va_up (va_up (va_up (va_up (fun _ => none) (0 : Int32).toNatClampNeg (some (uu_4 0))) (1 : Int32).toNatClampNeg (some (uu_7 0))) (2 : Int32).toNatClampNeg (some (uu_10 0))) (3 : Int32).toNatClampNeg (some (uu_13 0))))))))]]) H := hP
          have hD : va_D A (fl [wSt G uu_13 stZ, wSt G uu_10 stZ, wSt G uu_7 stZ, wSt G uu_4 stZ, [(h0, .inr (7, [.int (0 : Int32), .int (0 : Int32), .ref q_1]))], [(q_1, .inl (G.2.1 1, 9, .inr (.inr (.inr (.inr (va_up (va_up (va_up (va_up (fun _ => none) (0 : Int32).toNatClampNeg (some (uu_4 0))) (1 : Int32).toNatClampNeg (some (uu_7 0))) (2 : Int32).toNatClampNeg (some (uu_10 0))) (3 : Int32).toNatClampNeg (some (uu_13 0))))))))]]) := hD
          refine lv_iinc (v := (4 : Int32)) (lv' := [(1, .int (4 : Int32)), (0, .ref h0)]) hx hb dX4_init_47 hl (k := 0) rfl rfl (by decide) rfl (fun ls hl => ?_)
          refine lv_goto (tgt := 25) hx hb dX4_init_50 (by decide) ?_
          refine lv_iload_n hx hb dX4_init_25 rfl (lv_at hl 0 rfl) ?_
          refine lv_aload_n hx hb dX4_init_26 rfl (lv_at hl 1 rfl) ?_
          refine va_get (D := G.1) (ci := 7) (v := .ref q_1) (C := RX4) (T := TX4) (N := 3) hx hb hts uws_X4 hown hK hP 80 rfl rfl 2 (by decide) (hts _ u_1059) (fun _ h9 => h9) rfl dX4_init_27 ?_
          refine va_alen (v := (9 : Int32)) hx hb hK hP 81 1 rfl rfl rfl dX4_init_30 ?_
          refine lv_icmp_ge (tgt := 53) hx hb dX4_init_31 (by decide) (fun c_14 => ?_) (fun c_14 => ?_)
          · exact absurd c_14 (by decide)
          · refine lv_aload_n hx hb dX4_init_34 rfl (lv_at hl 1 rfl) ?_
            refine va_get (D := G.1) (ci := 7) (v := .ref q_1) (C := RX4) (T := TX4) (N := 3) hx hb hts uws_X4 hown hK hP 80 rfl rfl 2 (by decide) (hts _ u_1059) (fun _ h9 => h9) rfl dX4_init_35 ?_
            refine lv_iload_n hx hb dX4_init_38 rfl (lv_at hl 0 rfl) ?_
            refine w_newO (own := RX4) (C := RX8) (T := TX8) (N := 6) (ci := 10) (fs := [.int (0 : Int32), .int (0 : Int32), .null, .null, .null, .null]) hx hb hts uws_X8 tyX8 tyX8_ok hown (hts _ u_1053) (hts _ u_868) (hts _ u_22) hK hP hD hS hA rfl (fun j hj => by rcases (show j = 0 ∨ j = 1 ∨ j = 2 ∨ j = 3 ∨ j = 4 ∨ j = 5 by omega) with rfl | rfl | rfl | rfl | rfl | rfl <;> rfl) (Nat.le_of_ble_eq_true rfl) (Nat.le_of_ble_eq_true rfl) dX4_init_39 (fun q_15 H hP hD hS => ?_)
            have hP : va_P G.1 vwCl (fl [wSt G uu_13 stZ, wSt G uu_10 stZ, wSt G uu_7 stZ, wSt G uu_4 stZ, [(h0, .inr (7, [.int (0 : Int32), .int (0 : Int32), .ref q_1]))], [(q_1, .inl (G.2.1 1, 9, .inr (.inr (.inr (.inr (va_up (va_up (va_up (va_up (fun _ => none) (0 : Int32).toNatClampNeg (some (uu_4 0))) (1 : Int32).toNatClampNeg (some (uu_7 0))) (2 : Int32).toNatClampNeg (some (uu_10 0))) (3 : Int32).toNatClampNeg (some (uu_13 0))))))))], [(q_15, .inr (10, [.int (0 : Int32), .int (0 : Int32), .null, .null, .null, .null]))]]) H := hP
            have hD : va_D A (fl [wSt G uu_13 stZ, wSt G uu_10 stZ, wSt G uu_7 stZ, wSt G uu_4 stZ, [(h0, .inr (7, [.int (0 : Int32), .int (0 : Int32), .ref q_1]))], [(q_1, .inl (G.2.1 1, 9, .inr (.inr (.inr (.inr (va_up (va_up (va_up (va_up (fun _ => none) (0 : Int32).toNatClampNeg (some (uu_4 0))) (1 : Int32).toNatClampNeg (some (uu_7 0))) (2 : Int32).toNatClampNeg (some (uu_10 0))) (3 : Int32).toNatClampNeg (some (uu_13 0))))))))], [(q_15, .inr (10, [.int (0 : Int32), .int (0 : Int32), .null, .null, .null, .null]))]]) := hD
            refine lv_dup hx hb dX4_init_42 rfl ?_
            refine w_IN (own := RX4) (cs := [[(q_15, .inr (10, [.int (0 : Int32), .int (0 : Int32), .null, .null, .null, .null]))]]) (rs := [wSt G uu_13 stZ, wSt G uu_10 stZ, wSt G uu_7 stZ, wSt G uu_4 stZ, [(h0, .inr (7, [.int (0 : Int32), .int (0 : Int32), .ref q_1]))], [(q_1, .inl (G.2.1 1, 9, .inr (.inr (.inr (.inr (va_up (va_up (va_up (va_up (fun _ => none) (0 : Int32).toNatClampNeg (some (uu_4 0))) (1 : Int32).toNatClampNeg (some (uu_7 0))) (2 : Int32).toNatClampNeg (some (uu_10 0))) (3 : Int32).toNatClampNeg (some (uu_13 0))))))))]]) (As := []) (rest := [.ref q_15, .int (4 : Int32), .ref q_1]) (c_X8_init l G q_15 H.size) ⟨hx, hb, hml, hown, hts⟩ (hST.mw gN_X4_24) u_933 u_22 u_932 rfl hds_X8_init hK hST hS hP hD hA [6] [0, 1, 2, 3, 4, 5] rfl rfl rfl ⟨Nat.le_of_ble_eq_true rfl, Nat.le_of_ble_eq_true rfl⟩ ⟨Nat.le_of_ble_eq_true rfl, Nat.le_of_ble_eq_true rfl⟩ rfl hl.1 rfl (Nat.le_of_ble_eq_true rfl) dX4_init_43 (fun uu_16 H locs huu hP hD hS => ?_)
            have huu : uu_16 0 = q_15 := huu
            have hP9 := hP
            have hD9 := hD
            have hS9 := hS
            subst huu
            have hP := hP9
            have hD := hD9
            have hS := hS9
            have hP : va_P G.1 vwCl (fl [wSt G uu_16 stZ, wSt G uu_13 stZ, wSt G uu_10 stZ, wSt G uu_7 stZ, wSt G uu_4 stZ, [(h0, .inr (7, [.int (0 : Int32), .int (0 : Int32), .ref q_1]))], [(q_1, .inl (G.2.1 1, 9, .inr (.inr (.inr (.inr (va_up (va_up (va_up (va_up (fun _ => none) (0 : Int32).toNatClampNeg (some (uu_4 0))) (1 : Int32).toNatClampNeg (some (uu_7 0))) (2 : Int32).toNatClampNeg (some (uu_10 0))) (3 : Int32).toNatClampNeg (some (uu_13 0))))))))]]) H := hP
            have hD : va_D A (fl [wSt G uu_16 stZ, wSt G uu_13 stZ, wSt G uu_10 stZ, wSt G uu_7 stZ, wSt G uu_4 stZ, [(h0, .inr (7, [.int (0 : Int32), .int (0 : Int32), .ref q_1]))], [(q_1, .inl (G.2.1 1, 9, .inr (.inr (.inr (.inr (va_up (va_up (va_up (va_up (fun _ => none) (0 : Int32).toNatClampNeg (some (uu_4 0))) (1 : Int32).toNatClampNeg (some (uu_7 0))) (2 : Int32).toNatClampNeg (some (uu_10 0))) (3 : Int32).toNatClampNeg (some (uu_13 0))))))))]]) := hD
            refine W.eq (g2 := F0 m 46 ls [.ref (uu_16 0), .int (4 : Int32), .ref q_1]) rfl ?_
            refine va_astq hx hb hK hP hD hS 101 1 0 10 rfl rfl rfl rfl (vp_in_nI (n := 4) (by decide) (by decide)) dX4_init_46 (fun H locs hP hD hS => ?_)
            have hP : va_P G.1 vwCl (fl [wSt G uu_16 stZ, wSt G uu_13 stZ, wSt G uu_10 stZ, wSt G uu_7 stZ, wSt G uu_4 stZ, [(h0, .inr (7, [.int (0 : Int32), .int (0 : Int32), .ref q_1]))], [(q_1, .inl (G.2.1 1, 9, .inr (.inr (.inr (.inr (va_up (va_up (va_up (va_up (va_up (fun _ => none) (0 : Int32).toNatClampNeg (some (uu_4 0))) (1 : Int32).toNatClampNeg (some (uu_7 0))) (2 : Int32).toNatClampNeg (some (uu_10 0))) (3 : Int32).toNatClampNeg (some (uu_13 0))) (4 : Int32).toNatClampNeg (some (uu_16 0))))))))]]) H := hP
            have hD : va_D A (fl [wSt G uu_16 stZ, wSt G uu_13 stZ, wSt G uu_10 stZ, wSt G uu_7 stZ, wSt G uu_4 stZ, [(h0, .inr (7, [.int (0 : Int32), .int (0 : Int32), .ref q_1]))], [(q_1, .inl (G.2.1 1, 9, .inr (.inr (.inr (.inr (va_up (va_up (va_up (va_up (va_up (fun _ => none) (0 : Int32).toNatClampNeg (some (uu_4 0))) (1 : Int32).toNatClampNeg (some (uu_7 0))) (2 : Int32).toNatClampNeg (some (uu_10 0))) (3 : Int32).toNatClampNeg (some (uu_13 0))) (4 : Int32).toNatClampNeg (some (uu_16 0))))))))]]) := hD
            refine lv_iinc (v := (5 : Int32)) (lv' := [(1, .int (5 : Int32)), (0, .ref h0)]) hx hb dX4_init_47 hl (k := 0) rfl rfl (by decide) rfl (fun ls hl => ?_)
            refine lv_goto (tgt := 25) hx hb dX4_init_50 (by decide) ?_
            refine lv_iload_n hx hb dX4_init_25 rfl (lv_at hl 0 rfl) ?_
            refine lv_aload_n hx hb dX4_init_26 rfl (lv_at hl 1 rfl) ?_
            refine va_get (D := G.1) (ci := 7) (v := .ref q_1) (C := RX4) (T := TX4) (N := 3) hx hb hts uws_X4 hown hK hP 100 rfl rfl 2 (by decide) (hts _ u_1059) (fun _ h9 => h9) rfl dX4_init_27 ?_
            refine va_alen (v := (9 : Int32)) hx hb hK hP 101 1 rfl rfl rfl dX4_init_30 ?_
            refine lv_icmp_ge (tgt := 53) hx hb dX4_init_31 (by decide) (fun c_17 => ?_) (fun c_17 => ?_)
            · exact absurd c_17 (by decide)
            · refine lv_aload_n hx hb dX4_init_34 rfl (lv_at hl 1 rfl) ?_
              refine va_get (D := G.1) (ci := 7) (v := .ref q_1) (C := RX4) (T := TX4) (N := 3) hx hb hts uws_X4 hown hK hP 100 rfl rfl 2 (by decide) (hts _ u_1059) (fun _ h9 => h9) rfl dX4_init_35 ?_
              refine lv_iload_n hx hb dX4_init_38 rfl (lv_at hl 0 rfl) ?_
              refine w_newO (own := RX4) (C := RX8) (T := TX8) (N := 6) (ci := 10) (fs := [.int (0 : Int32), .int (0 : Int32), .null, .null, .null, .null]) hx hb hts uws_X8 tyX8 tyX8_ok hown (hts _ u_1053) (hts _ u_868) (hts _ u_22) hK hP hD hS hA rfl (fun j hj => by rcases (show j = 0 ∨ j = 1 ∨ j = 2 ∨ j = 3 ∨ j = 4 ∨ j = 5 by omega) with rfl | rfl | rfl | rfl | rfl | rfl <;> rfl) (Nat.le_of_ble_eq_true rfl) (Nat.le_of_ble_eq_true rfl) dX4_init_39 (fun q_18 H hP hD hS => ?_)
              have hP : va_P G.1 vwCl (fl [wSt G uu_16 stZ, wSt G uu_13 stZ, wSt G uu_10 stZ, wSt G uu_7 stZ, wSt G uu_4 stZ, [(h0, .inr (7, [.int (0 : Int32), .int (0 : Int32), .ref q_1]))], [(q_1, .inl (G.2.1 1, 9, .inr (.inr (.inr (.inr (va_up (va_up (va_up (va_up (va_up (fun _ => none) (0 : Int32).toNatClampNeg (some (uu_4 0))) (1 : Int32).toNatClampNeg (some (uu_7 0))) (2 : Int32).toNatClampNeg (some (uu_10 0))) (3 : Int32).toNatClampNeg (some (uu_13 0))) (4 : Int32).toNatClampNeg (some (uu_16 0))))))))], [(q_18, .inr (10, [.int (0 : Int32), .int (0 : Int32), .null, .null, .null, .null]))]]) H := hP
              have hD : va_D A (fl [wSt G uu_16 stZ, wSt G uu_13 stZ, wSt G uu_10 stZ, wSt G uu_7 stZ, wSt G uu_4 stZ, [(h0, .inr (7, [.int (0 : Int32), .int (0 : Int32), .ref q_1]))], [(q_1, .inl (G.2.1 1, 9, .inr (.inr (.inr (.inr (va_up (va_up (va_up (va_up (va_up (fun _ => none) (0 : Int32).toNatClampNeg (some (uu_4 0))) (1 : Int32).toNatClampNeg (some (uu_7 0))) (2 : Int32).toNatClampNeg (some (uu_10 0))) (3 : Int32).toNatClampNeg (some (uu_13 0))) (4 : Int32).toNatClampNeg (some (uu_16 0))))))))], [(q_18, .inr (10, [.int (0 : Int32), .int (0 : Int32), .null, .null, .null, .null]))]]) := hD
              refine lv_dup hx hb dX4_init_42 rfl ?_
              refine w_IN (own := RX4) (cs := [[(q_18, .inr (10, [.int (0 : Int32), .int (0 : Int32), .null, .null, .null, .null]))]]) (rs := [wSt G uu_16 stZ, wSt G uu_13 stZ, wSt G uu_10 stZ, wSt G uu_7 stZ, wSt G uu_4 stZ, [(h0, .inr (7, [.int (0 : Int32), .int (0 : Int32), .ref q_1]))], [(q_1, .inl (G.2.1 1, 9, .inr (.inr (.inr (.inr (va_up (va_up (va_up (va_up (va_up (fun _ => none) (0 : Int32).toNatClampNeg (some (uu_4 0))) (1 : Int32).toNatClampNeg (some (uu_7 0))) (2 : Int32).toNatClampNeg (some (uu_10 0))) (3 : Int32).toNatClampNeg (some (uu_13 0))) (4 : Int32).toNatClampNeg (some (uu_16 0))))))))]]) (As := []) (rest := [.ref q_18, .int (5 : Int32), .ref q_1]) (c_X8_init l G q_18 H.size) ⟨hx, hb, hml, hown, hts⟩ (hST.mw gN_X4_24) u_933 u_22 u_932 rfl hds_X8_init hK hST hS hP hD hA [7] [0, 1, 2, 3, 4, 5, 6] rfl rfl rfl ⟨Nat.le_of_ble_eq_true rfl, Nat.le_of_ble_eq_true rfl⟩ ⟨Nat.le_of_ble_eq_true rfl, Nat.le_of_ble_eq_true rfl⟩ rfl hl.1 rfl (Nat.le_of_ble_eq_true rfl) dX4_init_43 (fun uu_19 H locs huu hP hD hS => ?_)
              have huu : uu_19 0 = q_18 := huu
              have hP9 := hP
              have hD9 := hD
              have hS9 := hS
              subst huu
              have hP := hP9
              have hD := hD9
              have hS := hS9
              have hP : va_P G.1 vwCl (fl [wSt G uu_19 stZ, wSt G uu_16 stZ, wSt G uu_13 stZ, wSt G uu_10 stZ, wSt G uu_7 stZ, wSt G uu_4 stZ, [(h0, .inr (7, [.int (0 : Int32), .int (0 : Int32), .ref q_1]))], [(q_1, .inl (G.2.1 1, 9, .inr (.inr (.inr (.inr (va_up (va_up (va_up (va_up (va_up (fun _ => none) (0 : Int32).toNatClampNeg (some (uu_4 0))) (1 : Int32).toNatClampNeg (some (uu_7 0))) (2 : Int32).toNatClampNeg (some (uu_10 0))) (3 : Int32).toNatClampNeg (some (uu_13 0))) (4 : Int32).toNatClampNeg (some (uu_16 0))))))))]]) H := hP
              have hD : va_D A (fl [wSt G uu_19 stZ, wSt G uu_16 stZ, wSt G uu_13 stZ, wSt G uu_10 stZ, wSt G uu_7 stZ, wSt G uu_4 stZ, [(h0, .inr (7, [.int (0 : Int32), .int (0 : Int32), .ref q_1]))], [(q_1, .inl (G.2.1 1, 9, .inr (.inr (.inr (.inr (va_up (va_up (va_up (va_up (va_up (fun _ => none) (0 : Int32).toNatClampNeg (some (uu_4 0))) (1 : Int32).toNatClampNeg (some (uu_7 0))) (2 : Int32).toNatClampNeg (some (uu_10 0))) (3 : Int32).toNatClampNeg (some (uu_13 0))) (4 : Int32).toNatClampNeg (some (uu_16 0))))))))]]) := hD
              refine W.eq (g2 := F0 m 46 ls [.ref (uu_19 0), .int (5 : Int32), .ref q_1]) rfl ?_
              refine va_astq hx hb hK hP hD hS 121 1 0 10 rfl rfl rfl rfl (vp_in_nI (n := 5) (by decide) (by decide)) dX4_init_46 (fun H locs hP hD hS => ?_)
              have hP : va_P G.1 vwCl (fl [wSt G uu_19 stZ, wSt G uu_16 stZ, wSt G uu_13 stZ, wSt G uu_10 stZ, wSt G uu_7 stZ, wSt G uu_4 stZ, [(h0, .inr (7, [.int (0 : Int32), .int (0 : Int32), .ref q_1]))], [(q_1, .inl (G.2.1 1, 9, .inr (.inr (.inr (.inr (va_up (va_up (va_up (va_up (va_up (va_up (fun _ => none) (0 : Int32).toNatClampNeg (some (uu_4 0))) (1 : Int32).toNatClampNeg (some (uu_7 0))) (2 : Int32).toNatClampNeg (some (uu_10 0))) (3 : Int32).toNatClampNeg (some (uu_13 0))) (4 : Int32).toNatClampNeg (some (uu_16 0))) (5 : Int32).toNatClampNeg (some (uu_19 0))))))))]]) H := hP
              have hD : va_D A (fl [wSt G uu_19 stZ, wSt G uu_16 stZ, wSt G uu_13 stZ, wSt G uu_10 stZ, wSt G uu_7 stZ, wSt G uu_4 stZ, [(h0, .inr (7, [.int (0 : Int32), .int (0 : Int32), .ref q_1]))], [(q_1, .inl (G.2.1 1, 9, .inr (.inr (.inr (.inr (va_up (va_up (va_up (va_up (va_up (va_up (fun _ => none) (0 : Int32).toNatClampNeg (some (uu_4 0))) (1 : Int32).toNatClampNeg (some (uu_7 0))) (2 : Int32).toNatClampNeg (some (uu_10 0))) (3 : Int32).toNatClampNeg (some (uu_13 0))) (4 : Int32).toNatClampNeg (some (uu_16 0))) (5 : Int32).toNatClampNeg (some (uu_19 0))))))))]]) := hD
              refine lv_iinc (v := (6 : Int32)) (lv' := [(1, .int (6 : Int32)), (0, .ref h0)]) hx hb dX4_init_47 hl (k := 0) rfl rfl (by decide) rfl (fun ls hl => ?_)
              refine lv_goto (tgt := 25) hx hb dX4_init_50 (by decide) ?_
              refine lv_iload_n hx hb dX4_init_25 rfl (lv_at hl 0 rfl) ?_
              refine lv_aload_n hx hb dX4_init_26 rfl (lv_at hl 1 rfl) ?_
              refine va_get (D := G.1) (ci := 7) (v := .ref q_1) (C := RX4) (T := TX4) (N := 3) hx hb hts uws_X4 hown hK hP 120 rfl rfl 2 (by decide) (hts _ u_1059) (fun _ h9 => h9) rfl dX4_init_27 ?_
              refine va_alen (v := (9 : Int32)) hx hb hK hP 121 1 rfl rfl rfl dX4_init_30 ?_
              refine lv_icmp_ge (tgt := 53) hx hb dX4_init_31 (by decide) (fun c_20 => ?_) (fun c_20 => ?_)
              · exact absurd c_20 (by decide)
              · refine lv_aload_n hx hb dX4_init_34 rfl (lv_at hl 1 rfl) ?_
                refine va_get (D := G.1) (ci := 7) (v := .ref q_1) (C := RX4) (T := TX4) (N := 3) hx hb hts uws_X4 hown hK hP 120 rfl rfl 2 (by decide) (hts _ u_1059) (fun _ h9 => h9) rfl dX4_init_35 ?_
                refine lv_iload_n hx hb dX4_init_38 rfl (lv_at hl 0 rfl) ?_
                refine w_newO (own := RX4) (C := RX8) (T := TX8) (N := 6) (ci := 10) (fs := [.int (0 : Int32), .int (0 : Int32), .null, .null, .null, .null]) hx hb hts uws_X8 tyX8 tyX8_ok hown (hts _ u_1053) (hts _ u_868) (hts _ u_22) hK hP hD hS hA rfl (fun j hj => by rcases (show j = 0 ∨ j = 1 ∨ j = 2 ∨ j = 3 ∨ j = 4 ∨ j = 5 by omega) with rfl | rfl | rfl | rfl | rfl | rfl <;> rfl) (Nat.le_of_ble_eq_true rfl) (Nat.le_of_ble_eq_true rfl) dX4_init_39 (fun q_21 H hP hD hS => ?_)
                have hP : va_P G.1 vwCl (fl [wSt G uu_19 stZ, wSt G uu_16 stZ, wSt G uu_13 stZ, wSt G uu_10 stZ, wSt G uu_7 stZ, wSt G uu_4 stZ, [(h0, .inr (7, [.int (0 : Int32), .int (0 : Int32), .ref q_1]))], [(q_1, .inl (G.2.1 1, 9, .inr (.inr (.inr (.inr (va_up (va_up (va_up (va_up (va_up (va_up (fun _ => none) (0 : Int32).toNatClampNeg (some (uu_4 0))) (1 : Int32).toNatClampNeg (some (uu_7 0))) (2 : Int32).toNatClampNeg (some (uu_10 0))) (3 : Int32).toNatClampNeg (some (uu_13 0))) (4 : Int32).toNatClampNeg (some (uu_16 0))) (5 : Int32).toNatClampNeg (some (uu_19 0))))))))], [(q_21, .inr (10, [.int (0 : Int32), .int (0 : Int32), .null, .null, .null, .null]))]]) H := hP
                have hD : va_D A (fl [wSt G uu_19 stZ, wSt G uu_16 stZ, wSt G uu_13 stZ, wSt G uu_10 stZ, wSt G uu_7 stZ, wSt G uu_4 stZ, [(h0, .inr (7, [.int (0 : Int32), .int (0 : Int32), .ref q_1]))], [(q_1, .inl (G.2.1 1, 9, .inr (.inr (.inr (.inr (va_up (va_up (va_up (va_up (va_up (va_up (fun _ => none) (0 : Int32).toNatClampNeg (some (uu_4 0))) (1 : Int32).toNatClampNeg (some (uu_7 0))) (2 : Int32).toNatClampNeg (some (uu_10 0))) (3 : Int32).toNatClampNeg (some (uu_13 0))) (4 : Int32).toNatClampNeg (some (uu_16 0))) (5 : Int32).toNatClampNeg (some (uu_19 0))))))))], [(q_21, .inr (10, [.int (0 : Int32), .int (0 : Int32), .null, .null, .null, .null]))]]) := hD
                refine lv_dup hx hb dX4_init_42 rfl ?_
                refine w_IN (own := RX4) (cs := [[(q_21, .inr (10, [.int (0 : Int32), .int (0 : Int32), .null, .null, .null, .null]))]]) (rs := [wSt G uu_19 stZ, wSt G uu_16 stZ, wSt G uu_13 stZ, wSt G uu_10 stZ, wSt G uu_7 stZ, wSt G uu_4 stZ, [(h0, .inr (7, [.int (0 : Int32), .int (0 : Int32), .ref q_1]))], [(q_1, .inl (G.2.1 1, 9, .inr (.inr (.inr (.inr (va_up (va_up (va_up (va_up (va_up (va_up (fun _ => none) (0 : Int32).toNatClampNeg (some (uu_4 0))) (1 : Int32).toNatClampNeg (some (uu_7 0))) (2 : Int32).toNatClampNeg (some (uu_10 0))) (3 : Int32).toNatClampNeg (some (uu_13 0))) (4 : Int32).toNatClampNeg (some (uu_16 0))) (5 : Int32).toNatClampNeg (some (uu_19 0))))))))]]) (As := []) (rest := [.ref q_21, .int (6 : Int32), .ref q_1]) (c_X8_init l G q_21 H.size) ⟨hx, hb, hml, hown, hts⟩ (hST.mw gN_X4_24) u_933 u_22 u_932 rfl hds_X8_init hK hST hS hP hD hA [8] [0, 1, 2, 3, 4, 5, 6, 7] rfl rfl rfl ⟨Nat.le_of_ble_eq_true rfl, Nat.le_of_ble_eq_true rfl⟩ ⟨Nat.le_of_ble_eq_true rfl, Nat.le_of_ble_eq_true rfl⟩ rfl hl.1 rfl (Nat.le_of_ble_eq_true rfl) dX4_init_43 (fun uu_22 H locs huu hP hD hS => ?_)
                have huu : uu_22 0 = q_21 := huu
                have hP9 := hP
                have hD9 := hD
                have hS9 := hS
                subst huu
                have hP := hP9
                have hD := hD9
                have hS := hS9
                have hP : va_P G.1 vwCl (fl [wSt G uu_22 stZ, wSt G uu_19 stZ, wSt G uu_16 stZ, wSt G uu_13 stZ, wSt G uu_10 stZ, wSt G uu_7 stZ, wSt G uu_4 stZ, [(h0, .inr (7, [.int (0 : Int32), .int (0 : Int32), .ref q_1]))], [(q_1, .inl (G.2.1 1, 9, .inr (.inr (.inr (.inr (va_up (va_up (va_up (va_up (va_up (va_up (fun _ => none) (0 : Int32).toNatClampNeg (some (uu_4 0))) (1 : Int32).toNatClampNeg (some (uu_7 0))) (2 : Int32).toNatClampNeg (some (uu_10 0))) (3 : Int32).toNatClampNeg (some (uu_13 0))) (4 : Int32).toNatClampNeg (some (uu_16 0))) (5 : Int32).toNatClampNeg (some (uu_19 0))))))))]]) H := hP
                have hD : va_D A (fl [wSt G uu_22 stZ, wSt G uu_19 stZ, wSt G uu_16 stZ, wSt G uu_13 stZ, wSt G uu_10 stZ, wSt G uu_7 stZ, wSt G uu_4 stZ, [(h0, .inr (7, [.int (0 : Int32), .int (0 : Int32), .ref q_1]))], [(q_1, .inl (G.2.1 1, 9, .inr (.inr (.inr (.inr (va_up (va_up (va_up (va_up (va_up (va_up (fun _ => none) (0 : Int32).toNatClampNeg (some (uu_4 0))) (1 : Int32).toNatClampNeg (some (uu_7 0))) (2 : Int32).toNatClampNeg (some (uu_10 0))) (3 : Int32).toNatClampNeg (some (uu_13 0))) (4 : Int32).toNatClampNeg (some (uu_16 0))) (5 : Int32).toNatClampNeg (some (uu_19 0))))))))]]) := hD
                refine W.eq (g2 := F0 m 46 ls [.ref (uu_22 0), .int (6 : Int32), .ref q_1]) rfl ?_
                refine va_astq hx hb hK hP hD hS 141 1 0 10 rfl rfl rfl rfl (vp_in_nI (n := 6) (by decide) (by decide)) dX4_init_46 (fun H locs hP hD hS => ?_)
                have hP : va_P G.1 vwCl (fl [wSt G uu_22 stZ, wSt G uu_19 stZ, wSt G uu_16 stZ, wSt G uu_13 stZ, wSt G uu_10 stZ, wSt G uu_7 stZ, wSt G uu_4 stZ, [(h0, .inr (7, [.int (0 : Int32), .int (0 : Int32), .ref q_1]))], [(q_1, .inl (G.2.1 1, 9, .inr (.inr (.inr (.inr (va_up (va_up (va_up (va_up (va_up (va_up (va_up (fun _ => none) (0 : Int32).toNatClampNeg (some (uu_4 0))) (1 : Int32).toNatClampNeg (some (uu_7 0))) (2 : Int32).toNatClampNeg (some (uu_10 0))) (3 : Int32).toNatClampNeg (some (uu_13 0))) (4 : Int32).toNatClampNeg (some (uu_16 0))) (5 : Int32).toNatClampNeg (some (uu_19 0))) (6 : Int32).toNatClampNeg (some (uu_22 0))))))))]]) H := hP
                have hD : va_D A (fl [wSt G uu_22 stZ, wSt G uu_19 stZ, wSt G uu_16 stZ, wSt G uu_13 stZ, wSt G uu_10 stZ, wSt G uu_7 stZ, wSt G uu_4 stZ, [(h0, .inr (7, [.int (0 : Int32), .int (0 : Int32), .ref q_1]))], [(q_1, .inl (G.2.1 1, 9, .inr (.inr (.inr (.inr (va_up (va_up (va_up (va_up (va_up (va_up (va_up (fun _ => none) (0 : Int32).toNatClampNeg (some (uu_4 0))) (1 : Int32).toNatClampNeg (some (uu_7 0))) (2 : Int32).toNatClampNeg (some (uu_10 0))) (3 : Int32).toNatClampNeg (some (uu_13 0))) (4 : Int32).toNatClampNeg (some (uu_16 0))) (5 : Int32).toNatClampNeg (some (uu_19 0))) (6 : Int32).toNatClampNeg (some (uu_22 0))))))))]]) := hD
                refine lv_iinc (v := (7 : Int32)) (lv' := [(1, .int (7 : Int32)), (0, .ref h0)]) hx hb dX4_init_47 hl (k := 0) rfl rfl (by decide) rfl (fun ls hl => ?_)
                refine lv_goto (tgt := 25) hx hb dX4_init_50 (by decide) ?_
                refine lv_iload_n hx hb dX4_init_25 rfl (lv_at hl 0 rfl) ?_
                refine lv_aload_n hx hb dX4_init_26 rfl (lv_at hl 1 rfl) ?_
                refine va_get (D := G.1) (ci := 7) (v := .ref q_1) (C := RX4) (T := TX4) (N := 3) hx hb hts uws_X4 hown hK hP 140 rfl rfl 2 (by decide) (hts _ u_1059) (fun _ h9 => h9) rfl dX4_init_27 ?_
                refine va_alen (v := (9 : Int32)) hx hb hK hP 141 1 rfl rfl rfl dX4_init_30 ?_
                refine lv_icmp_ge (tgt := 53) hx hb dX4_init_31 (by decide) (fun c_23 => ?_) (fun c_23 => ?_)
                · exact absurd c_23 (by decide)
                · refine lv_aload_n hx hb dX4_init_34 rfl (lv_at hl 1 rfl) ?_
                  refine va_get (D := G.1) (ci := 7) (v := .ref q_1) (C := RX4) (T := TX4) (N := 3) hx hb hts uws_X4 hown hK hP 140 rfl rfl 2 (by decide) (hts _ u_1059) (fun _ h9 => h9) rfl dX4_init_35 ?_
                  refine lv_iload_n hx hb dX4_init_38 rfl (lv_at hl 0 rfl) ?_
                  refine w_newO (own := RX4) (C := RX8) (T := TX8) (N := 6) (ci := 10) (fs := [.int (0 : Int32), .int (0 : Int32), .null, .null, .null, .null]) hx hb hts uws_X8 tyX8 tyX8_ok hown (hts _ u_1053) (hts _ u_868) (hts _ u_22) hK hP hD hS hA rfl (fun j hj => by rcases (show j = 0 ∨ j = 1 ∨ j = 2 ∨ j = 3 ∨ j = 4 ∨ j = 5 by omega) with rfl | rfl | rfl | rfl | rfl | rfl <;> rfl) (Nat.le_of_ble_eq_true rfl) (Nat.le_of_ble_eq_true rfl) dX4_init_39 (fun q_24 H hP hD hS => ?_)
                  have hP : va_P G.1 vwCl (fl [wSt G uu_22 stZ, wSt G uu_19 stZ, wSt G uu_16 stZ, wSt G uu_13 stZ, wSt G uu_10 stZ, wSt G uu_7 stZ, wSt G uu_4 stZ, [(h0, .inr (7, [.int (0 : Int32), .int (0 : Int32), .ref q_1]))], [(q_1, .inl (G.2.1 1, 9, .inr (.inr (.inr (.inr (va_up (va_up (va_up (va_up (va_up (va_up (va_up (fun _ => none) (0 : Int32).toNatClampNeg (some (uu_4 0))) (1 : Int32).toNatClampNeg (some (uu_7 0))) (2 : Int32).toNatClampNeg (some (uu_10 0))) (3 : Int32).toNatClampNeg (some (uu_13 0))) (4 : Int32).toNatClampNeg (some (uu_16 0))) (5 : Int32).toNatClampNeg (some (uu_19 0))) (6 : Int32).toNatClampNeg (some (uu_22 0))))))))], [(q_24, .inr (10, [.int (0 : Int32), .int (0 : Int32), .null, .null, .null, .null]))]]) H := hP
                  have hD : va_D A (fl [wSt G uu_22 stZ, wSt G uu_19 stZ, wSt G uu_16 stZ, wSt G uu_13 stZ, wSt G uu_10 stZ, wSt G uu_7 stZ, wSt G uu_4 stZ, [(h0, .inr (7, [.int (0 : Int32), .int (0 : Int32), .ref q_1]))], [(q_1, .inl (G.2.1 1, 9, .inr (.inr (.inr (.inr (va_up (va_up (va_up (va_up (va_up (va_up (va_up (fun _ => none) (0 : Int32).toNatClampNeg (some (uu_4 0))) (1 : Int32).toNatClampNeg (some (uu_7 0))) (2 : Int32).toNatClampNeg (some (uu_10 0))) (3 : Int32).toNatClampNeg (some (uu_13 0))) (4 : Int32).toNatClampNeg (some (uu_16 0))) (5 : Int32).toNatClampNeg (some (uu_19 0))) (6 : Int32).toNatClampNeg (some (uu_22 0))))))))], [(q_24, .inr (10, [.int (0 : Int32), .int (0 : Int32), .null, .null, .null, .null]))]]) := hD
                  refine lv_dup hx hb dX4_init_42 rfl ?_
                  refine w_IN (own := RX4) (cs := [[(q_24, .inr (10, [.int (0 : Int32), .int (0 : Int32), .null, .null, .null, .null]))]]) (rs := [wSt G uu_22 stZ, wSt G uu_19 stZ, wSt G uu_16 stZ, wSt G uu_13 stZ, wSt G uu_10 stZ, wSt G uu_7 stZ, wSt G uu_4 stZ, [(h0, .inr (7, [.int (0 : Int32), .int (0 : Int32), .ref q_1]))], [(q_1, .inl (G.2.1 1, 9, .inr (.inr (.inr (.inr (va_up (va_up (va_up (va_up (va_up (va_up (va_up (fun _ => none) (0 : Int32).toNatClampNeg (some (uu_4 0))) (1 : Int32).toNatClampNeg (some (uu_7 0))) (2 : Int32).toNatClampNeg (some (uu_10 0))) (3 : Int32).toNatClampNeg (some (uu_13 0))) (4 : Int32).toNatClampNeg (some (uu_16 0))) (5 : Int32).toNatClampNeg (some (uu_19 0))) (6 : Int32).toNatClampNeg (some (uu_22 0))))))))]]) (As := []) (rest := [.ref q_24, .int (7 : Int32), .ref q_1]) (c_X8_init l G q_24 H.size) ⟨hx, hb, hml, hown, hts⟩ (hST.mw gN_X4_24) u_933 u_22 u_932 rfl hds_X8_init hK hST hS hP hD hA [9] [0, 1, 2, 3, 4, 5, 6, 7, 8] rfl rfl rfl ⟨Nat.le_of_ble_eq_true rfl, Nat.le_of_ble_eq_true rfl⟩ ⟨Nat.le_of_ble_eq_true rfl, Nat.le_of_ble_eq_true rfl⟩ rfl hl.1 rfl (Nat.le_of_ble_eq_true rfl) dX4_init_43 (fun uu_25 H locs huu hP hD hS => ?_)
                  have huu : uu_25 0 = q_24 := huu
                  have hP9 := hP
                  have hD9 := hD
                  have hS9 := hS
                  subst huu
                  have hP := hP9
                  have hD := hD9
                  have hS := hS9
                  have hP : va_P G.1 vwCl (fl [wSt G uu_25 stZ, wSt G uu_22 stZ, wSt G uu_19 stZ, wSt G uu_16 stZ, wSt G uu_13 stZ, wSt G uu_10 stZ, wSt G uu_7 stZ, wSt G uu_4 stZ, [(h0, .inr (7, [.int (0 : Int32), .int (0 : Int32), .ref q_1]))], [(q_1, .inl (G.2.1 1, 9, .inr (.inr (.inr (.inr (va_up (va_up (va_up (va_up (va_up (va_up (va_up (fun _ => none) (0 : Int32).toNatClampNeg (some (uu_4 0))) (1 : Int32).toNatClampNeg (some (uu_7 0))) (2 : Int32).toNatClampNeg (some (uu_10 0))) (3 : Int32).toNatClampNeg (some (uu_13 0))) (4 : Int32).toNatClampNeg (some (uu_16 0))) (5 : Int32).toNatClampNeg (some (uu_19 0))) (6 : Int32).toNatClampNeg (some (uu_22 0))))))))]]) H := hP
                  have hD : va_D A (fl [wSt G uu_25 stZ, wSt G uu_22 stZ, wSt G uu_19 stZ, wSt G uu_16 stZ, wSt G uu_13 stZ, wSt G uu_10 stZ, wSt G uu_7 stZ, wSt G uu_4 stZ, [(h0, .inr (7, [.int (0 : Int32), .int (0 : Int32), .ref q_1]))], [(q_1, .inl (G.2.1 1, 9, .inr (.inr (.inr (.inr (va_up (va_up (va_up (va_up (va_up (va_up (va_up (fun _ => none) (0 : Int32).toNatClampNeg (some (uu_4 0))) (1 : Int32).toNatClampNeg (some (uu_7 0))) (2 : Int32).toNatClampNeg (some (uu_10 0))) (3 : Int32).toNatClampNeg (some (uu_13 0))) (4 : Int32).toNatClampNeg (some (uu_16 0))) (5 : Int32).toNatClampNeg (some (uu_19 0))) (6 : Int32).toNatClampNeg (some (uu_22 0))))))))]]) := hD
                  refine W.eq (g2 := F0 m 46 ls [.ref (uu_25 0), .int (7 : Int32), .ref q_1]) rfl ?_
                  refine va_astq hx hb hK hP hD hS 161 1 0 10 rfl rfl rfl rfl (vp_in_nI (n := 7) (by decide) (by decide)) dX4_init_46 (fun H locs hP hD hS => ?_)
                  have hP : va_P G.1 vwCl (fl [wSt G uu_25 stZ, wSt G uu_22 stZ, wSt G uu_19 stZ, wSt G uu_16 stZ, wSt G uu_13 stZ, wSt G uu_10 stZ, wSt G uu_7 stZ, wSt G uu_4 stZ, [(h0, .inr (7, [.int (0 : Int32), .int (0 : Int32), .ref q_1]))], [(q_1, .inl (G.2.1 1, 9, .inr (.inr (.inr (.inr (va_up (va_up (va_up (va_up (va_up (va_up (va_up (va_up (fun _ => none) (0 : Int32).toNatClampNeg (some (uu_4 0))) (1 : Int32).toNatClampNeg (some (uu_7 0))) (2 : Int32).toNatClampNeg (some (uu_10 0))) (3 : Int32).toNatClampNeg (some (uu_13 0))) (4 : Int32).toNatClampNeg (some (uu_16 0))) (5 : Int32).toNatClampNeg (some (uu_19 0))) (6 : Int32).toNatClampNeg (some (uu_22 0))) (7 : Int32).toNatClampNeg (some (uu_25 0))))))))]]) H := hP
                  have hD : va_D A (fl [wSt G uu_25 stZ, wSt G uu_22 stZ, wSt G uu_19 stZ, wSt G uu_16 stZ, wSt G uu_13 stZ, wSt G uu_10 stZ, wSt G uu_7 stZ, wSt G uu_4 stZ, [(h0, .inr (7, [.int (0 : Int32), .int (0 : Int32), .ref q_1]))], [(q_1, .inl (G.2.1 1, 9, .inr (.inr (.inr (.inr (va_up (va_up (va_up (va_up (va_up (va_up (va_up (va_up (fun _ => none) (0 : Int32).toNatClampNeg (some (uu_4 0))) (1 : Int32).toNatClampNeg (some (uu_7 0))) (2 : Int32).toNatClampNeg (some (uu_10 0))) (3 : Int32).toNatClampNeg (some (uu_13 0))) (4 : Int32).toNatClampNeg (some (uu_16 0))) (5 : Int32).toNatClampNeg (some (uu_19 0))) (6 : Int32).toNatClampNeg (some (uu_22 0))) (7 : Int32).toNatClampNeg (some (uu_25 0))))))))]]) := hD
                  refine lv_iinc (v := (8 : Int32)) (lv' := [(1, .int (8 : Int32)), (0, .ref h0)]) hx hb dX4_init_47 hl (k := 0) rfl rfl (by decide) rfl (fun ls hl => ?_)
                  refine lv_goto (tgt := 25) hx hb dX4_init_50 (by decide) ?_
                  refine lv_iload_n hx hb dX4_init_25 rfl (lv_at hl 0 rfl) ?_
                  refine lv_aload_n hx hb dX4_init_26 rfl (lv_at hl 1 rfl) ?_
                  refine va_get (D := G.1) (ci := 7) (v := .ref q_1) (C := RX4) (T := TX4) (N := 3) hx hb hts uws_X4 hown hK hP 160 rfl rfl 2 (by decide) (hts _ u_1059) (fun _ h9 => h9) rfl dX4_init_27 ?_
                  refine va_alen (v := (9 : Int32)) hx hb hK hP 161 1 rfl rfl rfl dX4_init_30 ?_
                  refine lv_icmp_ge (tgt := 53) hx hb dX4_init_31 (by decide) (fun c_26 => ?_) (fun c_26 => ?_)
                  · exact absurd c_26 (by decide)
                  · refine lv_aload_n hx hb dX4_init_34 rfl (lv_at hl 1 rfl) ?_
                    refine va_get (D := G.1) (ci := 7) (v := .ref q_1) (C := RX4) (T := TX4) (N := 3) hx hb hts uws_X4 hown hK hP 160 rfl rfl 2 (by decide) (hts _ u_1059) (fun _ h9 => h9) rfl dX4_init_35 ?_
                    refine lv_iload_n hx hb dX4_init_38 rfl (lv_at hl 0 rfl) ?_
                    refine w_newO (own := RX4) (C := RX8) (T := TX8) (N := 6) (ci := 10) (fs := [.int (0 : Int32), .int (0 : Int32), .null, .null, .null, .null]) hx hb hts uws_X8 tyX8 tyX8_ok hown (hts _ u_1053) (hts _ u_868) (hts _ u_22) hK hP hD hS hA rfl (fun j hj => by rcases (show j = 0 ∨ j = 1 ∨ j = 2 ∨ j = 3 ∨ j = 4 ∨ j = 5 by omega) with rfl | rfl | rfl | rfl | rfl | rfl <;> rfl) (Nat.le_of_ble_eq_true rfl) (Nat.le_of_ble_eq_true rfl) dX4_init_39 (fun q_27 H hP hD hS => ?_)
                    have hP : va_P G.1 vwCl (fl [wSt G uu_25 stZ, wSt G uu_22 stZ, wSt G uu_19 stZ, wSt G uu_16 stZ, wSt G uu_13 stZ, wSt G uu_10 stZ, wSt G uu_7 stZ, wSt G uu_4 stZ, [(h0, .inr (7, [.int (0 : Int32), .int (0 : Int32), .ref q_1]))], [(q_1, .inl (G.2.1 1, 9, .inr (.inr (.inr (.inr (va_up (va_up (va_up (va_up (va_up (va_up (va_up (va_up (fun _ => none) (0 : Int32).toNatClampNeg (some (uu_4 0))) (1 : Int32).toNatClampNeg (some (uu_7 0))) (2 : Int32).toNatClampNeg (some (uu_10 0))) (3 : Int32).toNatClampNeg (some (uu_13 0))) (4 : Int32).toNatClampNeg (some (uu_16 0))) (5 : Int32).toNatClampNeg (some (uu_19 0))) (6 : Int32).toNatClampNeg (some (uu_22 0))) (7 : Int32).toNatClampNeg (some (uu_25 0))))))))], [(q_27, .inr (10, [.int (0 : Int32), .int (0 : Int32), .null, .null, .null, .null]))]]) H := hP
                    have hD : va_D A (fl [wSt G uu_25 stZ, wSt G uu_22 stZ, wSt G uu_19 stZ, wSt G uu_16 stZ, wSt G uu_13 stZ, wSt G uu_10 stZ, wSt G uu_7 stZ, wSt G uu_4 stZ, [(h0, .inr (7, [.int (0 : Int32), .int (0 : Int32), .ref q_1]))], [(q_1, .inl (G.2.1 1, 9, .inr (.inr (.inr (.inr (va_up (va_up (va_up (va_up (va_up (va_up (va_up (va_up (fun _ => none) (0 : Int32).toNatClampNeg (some (uu_4 0))) (1 : Int32).toNatClampNeg (some (uu_7 0))) (2 : Int32).toNatClampNeg (some (uu_10 0))) (3 : Int32).toNatClampNeg (some (uu_13 0))) (4 : Int32).toNatClampNeg (some (uu_16 0))) (5 : Int32).toNatClampNeg (some (uu_19 0))) (6 : Int32).toNatClampNeg (some (uu_22 0))) (7 : Int32).toNatClampNeg (some (uu_25 0))))))))], [(q_27, .inr (10, [.int (0 : Int32), .int (0 : Int32), .null, .null, .null, .null]))]]) := hD
                    refine lv_dup hx hb dX4_init_42 rfl ?_
                    refine w_IN (own := RX4) (cs := [[(q_27, .inr (10, [.int (0 : Int32), .int (0 : Int32), .null, .null, .null, .null]))]]) (rs := [wSt G uu_25 stZ, wSt G uu_22 stZ, wSt G uu_19 stZ, wSt G uu_16 stZ, wSt G uu_13 stZ, wSt G uu_10 stZ, wSt G uu_7 stZ, wSt G uu_4 stZ, [(h0, .inr (7, [.int (0 : Int32), .int (0 : Int32), .ref q_1]))], [(q_1, .inl (G.2.1 1, 9, .inr (.inr (.inr (.inr (va_up (va_up (va_up (va_up (va_up (va_up (va_up (va_up (fun _ => none) (0 : Int32).toNatClampNeg (some (uu_4 0))) (1 : Int32).toNatClampNeg (some (uu_7 0))) (2 : Int32).toNatClampNeg (some (uu_10 0))) (3 : Int32).toNatClampNeg (some (uu_13 0))) (4 : Int32).toNatClampNeg (some (uu_16 0))) (5 : Int32).toNatClampNeg (some (uu_19 0))) (6 : Int32).toNatClampNeg (some (uu_22 0))) (7 : Int32).toNatClampNeg (some (uu_25 0))))))))]]) (As := []) (rest := [.ref q_27, .int (8 : Int32), .ref q_1]) (c_X8_init l G q_27 H.size) ⟨hx, hb, hml, hown, hts⟩ (hST.mw gN_X4_24) u_933 u_22 u_932 rfl hds_X8_init hK hST hS hP hD hA [10] [0, 1, 2, 3, 4, 5, 6, 7, 8, 9] rfl rfl rfl ⟨Nat.le_of_ble_eq_true rfl, Nat.le_of_ble_eq_true rfl⟩ ⟨Nat.le_of_ble_eq_true rfl, Nat.le_of_ble_eq_true rfl⟩ rfl hl.1 rfl (Nat.le_of_ble_eq_true rfl) dX4_init_43 (fun uu_28 H locs huu hP hD hS => ?_)
                    have huu : uu_28 0 = q_27 := huu
                    have hP9 := hP
                    have hD9 := hD
                    have hS9 := hS
                    subst huu
                    have hP := hP9
                    have hD := hD9
                    have hS := hS9
                    have hP : va_P G.1 vwCl (fl [wSt G uu_28 stZ, wSt G uu_25 stZ, wSt G uu_22 stZ, wSt G uu_19 stZ, wSt G uu_16 stZ, wSt G uu_13 stZ, wSt G uu_10 stZ, wSt G uu_7 stZ, wSt G uu_4 stZ, [(h0, .inr (7, [.int (0 : Int32), .int (0 : Int32), .ref q_1]))], [(q_1, .inl (G.2.1 1, 9, .inr (.inr (.inr (.inr (va_up (va_up (va_up (va_up (va_up (va_up (va_up (va_up (fun _ => none) (0 : Int32).toNatClampNeg (some (uu_4 0))) (1 : Int32).toNatClampNeg (some (uu_7 0))) (2 : Int32).toNatClampNeg (some (uu_10 0))) (3 : Int32).toNatClampNeg (some (uu_13 0))) (4 : Int32).toNatClampNeg (some (uu_16 0))) (5 : Int32).toNatClampNeg (some (uu_19 0))) (6 : Int32).toNatClampNeg (some (uu_22 0))) (7 : Int32).toNatClampNeg (some (uu_25 0))))))))]]) H := hP
                    have hD : va_D A (fl [wSt G uu_28 stZ, wSt G uu_25 stZ, wSt G uu_22 stZ, wSt G uu_19 stZ, wSt G uu_16 stZ, wSt G uu_13 stZ, wSt G uu_10 stZ, wSt G uu_7 stZ, wSt G uu_4 stZ, [(h0, .inr (7, [.int (0 : Int32), .int (0 : Int32), .ref q_1]))], [(q_1, .inl (G.2.1 1, 9, .inr (.inr (.inr (.inr (va_up (va_up (va_up (va_up (va_up (va_up (va_up (va_up (fun _ => none) (0 : Int32).toNatClampNeg (some (uu_4 0))) (1 : Int32).toNatClampNeg (some (uu_7 0))) (2 : Int32).toNatClampNeg (some (uu_10 0))) (3 : Int32).toNatClampNeg (some (uu_13 0))) (4 : Int32).toNatClampNeg (some (uu_16 0))) (5 : Int32).toNatClampNeg (some (uu_19 0))) (6 : Int32).toNatClampNeg (some (uu_22 0))) (7 : Int32).toNatClampNeg (some (uu_25 0))))))))]]) := hD
                    refine W.eq (g2 := F0 m 46 ls [.ref (uu_28 0), .int (8 : Int32), .ref q_1]) rfl ?_
                    refine va_astq hx hb hK hP hD hS 181 1 0 10 rfl rfl rfl rfl (vp_in_nI (n := 8) (by decide) (by decide)) dX4_init_46 (fun H locs hP hD hS => ?_)
                    have hP : va_P G.1 vwCl (fl [wSt G uu_28 stZ, wSt G uu_25 stZ, wSt G uu_22 stZ, wSt G uu_19 stZ, wSt G uu_16 stZ, wSt G uu_13 stZ, wSt G uu_10 stZ, wSt G uu_7 stZ, wSt G uu_4 stZ, [(h0, .inr (7, [.int (0 : Int32), .int (0 : Int32), .ref q_1]))], [(q_1, .inl (G.2.1 1, 9, .inr (.inr (.inr (.inr (va_up (va_up (va_up (va_up (va_up (va_up (va_up (va_up (va_up (fun _ => none) (0 : Int32).toNatClampNeg (some (uu_4 0))) (1 : Int32).toNatClampNeg (some (uu_7 0))) (2 : Int32).toNatClampNeg (some (uu_10 0))) (3 : Int32).toNatClampNeg (some (uu_13 0))) (4 : Int32).toNatClampNeg (some (uu_16 0))) (5 : Int32).toNatClampNeg (some (uu_19 0))) (6 : Int32).toNatClampNeg (some (uu_22 0))) (7 : Int32).toNatClampNeg (some (uu_25 0))) (8 : Int32).toNatClampNeg (some (uu_28 0))))))))]]) H := hP
                    have hD : va_D A (fl [wSt G uu_28 stZ, wSt G uu_25 stZ, wSt G uu_22 stZ, wSt G uu_19 stZ, wSt G uu_16 stZ, wSt G uu_13 stZ, wSt G uu_10 stZ, wSt G uu_7 stZ, wSt G uu_4 stZ, [(h0, .inr (7, [.int (0 : Int32), .int (0 : Int32), .ref q_1]))], [(q_1, .inl (G.2.1 1, 9, .inr (.inr (.inr (.inr (va_up (va_up (va_up (va_up (va_up (va_up (va_up (va_up (va_up (fun _ => none) (0 : Int32).toNatClampNeg (some (uu_4 0))) (1 : Int32).toNatClampNeg (some (uu_7 0))) (2 : Int32).toNatClampNeg (some (uu_10 0))) (3 : Int32).toNatClampNeg (some (uu_13 0))) (4 : Int32).toNatClampNeg (some (uu_16 0))) (5 : Int32).toNatClampNeg (some (uu_19 0))) (6 : Int32).toNatClampNeg (some (uu_22 0))) (7 : Int32).toNatClampNeg (some (uu_25 0))) (8 : Int32).toNatClampNeg (some (uu_28 0))))))))]]) := hD
                    refine lv_iinc (v := (9 : Int32)) (lv' := [(1, .int (9 : Int32)), (0, .ref h0)]) hx hb dX4_init_47 hl (k := 0) rfl rfl (by decide) rfl (fun ls hl => ?_)
                    refine lv_goto (tgt := 25) hx hb dX4_init_50 (by decide) ?_
                    refine lv_iload_n hx hb dX4_init_25 rfl (lv_at hl 0 rfl) ?_
                    refine lv_aload_n hx hb dX4_init_26 rfl (lv_at hl 1 rfl) ?_
                    refine va_get (D := G.1) (ci := 7) (v := .ref q_1) (C := RX4) (T := TX4) (N := 3) hx hb hts uws_X4 hown hK hP 180 rfl rfl 2 (by decide) (hts _ u_1059) (fun _ h9 => h9) rfl dX4_init_27 ?_
                    refine va_alen (v := (9 : Int32)) hx hb hK hP 181 1 rfl rfl rfl dX4_init_30 ?_
                    refine lv_icmp_ge (tgt := 53) hx hb dX4_init_31 (by decide) (fun c_29 => ?_) (fun c_29 => ?_)
                    · have hP := fl_sub (cs := [[(q_1, .inl (G.2.1 1, 9, .inr (.inr (.inr (.inr (va_up (va_up (va_up (va_up (va_up (va_up (va_up (va_up (va_up (fun _ => none) (0 : Int32).toNatClampNeg (some (uu_4 0))) (1 : Int32).toNatClampNeg (some (uu_7 0))) (2 : Int32).toNatClampNeg (some (uu_10 0))) (3 : Int32).toNatClampNeg (some (uu_13 0))) (4 : Int32).toNatClampNeg (some (uu_16 0))) (5 : Int32).toNatClampNeg (some (uu_19 0))) (6 : Int32).toNatClampNeg (some (uu_22 0))) (7 : Int32).toNatClampNeg (some (uu_25 0))) (8 : Int32).toNatClampNeg (some (uu_28 0))))))))], [(h0, .inr (7, [.int (0 : Int32), .int (0 : Int32), .ref q_1]))], wSt G uu_4 stZ, wSt G uu_7 stZ, wSt G uu_10 stZ, wSt G uu_13 stZ, wSt G uu_16 stZ, wSt G uu_19 stZ, wSt G uu_22 stZ, wSt G uu_25 stZ, wSt G uu_28 stZ]) [10, 9, 8, 7, 6, 5, 4, 3, 2, 1, 0] rfl hP
                      have hD := fl_subD (cs := [[(q_1, .inl (G.2.1 1, 9, .inr (.inr (.inr (.inr (va_up (va_up (va_up (va_up (va_up (va_up (va_up (va_up (va_up (fun _ => none) (0 : Int32).toNatClampNeg (some (uu_4 0))) (1 : Int32).toNatClampNeg (some (uu_7 0))) (2 : Int32).toNatClampNeg (some (uu_10 0))) (3 : Int32).toNatClampNeg (some (uu_13 0))) (4 : Int32).toNatClampNeg (some (uu_16 0))) (5 : Int32).toNatClampNeg (some (uu_19 0))) (6 : Int32).toNatClampNeg (some (uu_22 0))) (7 : Int32).toNatClampNeg (some (uu_25 0))) (8 : Int32).toNatClampNeg (some (uu_28 0))))))))], [(h0, .inr (7, [.int (0 : Int32), .int (0 : Int32), .ref q_1]))], wSt G uu_4 stZ, wSt G uu_7 stZ, wSt G uu_10 stZ, wSt G uu_13 stZ, wSt G uu_16 stZ, wSt G uu_19 stZ, wSt G uu_22 stZ, wSt G uu_25 stZ, wSt G uu_28 stZ]) [10, 9, 8, 7, 6, 5, 4, 3, 2, 1, 0] rfl rfl hD
                      have hP := rows_P (g := (fun j => some ((pk9 uu_4 uu_7 uu_10 uu_13 uu_16 uu_19 uu_22 uu_25 uu_28) j 0))) (fun j hj => by rcases (show j = 0 ∨ j = 1 ∨ j = 2 ∨ j = 3 ∨ j = 4 ∨ j = 5 ∨ j = 6 ∨ j = 7 ∨ j = 8 by omega) with rfl | rfl | rfl | rfl | rfl | rfl | rfl | rfl | rfl <;> rfl) (show va_P G.1 vwCl ((q_1, .inl (G.2.1 1, 9, .inr (.inr (.inr (.inr (va_up (va_up (va_up (va_up (va_up (va_up (va_up (va_up (va_up (fun _ => none) (0 : Int32).toNatClampNeg (some (uu_4 0))) (1 : Int32).toNatClampNeg (some (uu_7 0))) (2 : Int32).toNatClampNeg (some (uu_10 0))) (3 : Int32).toNatClampNeg (some (uu_13 0))) (4 : Int32).toNatClampNeg (some (uu_16 0))) (5 : Int32).toNatClampNeg (some (uu_19 0))) (6 : Int32).toNatClampNeg (some (uu_22 0))) (7 : Int32).toNatClampNeg (some (uu_25 0))) (8 : Int32).toNatClampNeg (some (uu_28 0)))))))) :: fl [[(h0, .inr (7, [.int (0 : Int32), .int (0 : Int32), .ref q_1]))], wSt G uu_4 stZ, wSt G uu_7 stZ, wSt G uu_10 stZ, wSt G uu_13 stZ, wSt G uu_16 stZ, wSt G uu_19 stZ, wSt G uu_22 stZ, wSt G uu_25 stZ, wSt G uu_28 stZ]) H from hP)
                      have hD := rows_D (b := .inl (G.2.1 1, 9, .inr (.inr (.inr (.inr (fun j => some ((pk9 uu_4 uu_7 uu_10 uu_13 uu_16 uu_19 uu_22 uu_25 uu_28) j 0))))))) (show va_D A ((q_1, .inl (G.2.1 1, 9, .inr (.inr (.inr (.inr (va_up (va_up (va_up (va_up (va_up (va_up (va_up (va_up (va_up (fun _ => none) (0 : Int32).toNatClampNeg (some (uu_4 0))) (1 : Int32).toNatClampNeg (some (uu_7 0))) (2 : Int32).toNatClampNeg (some (uu_10 0))) (3 : Int32).toNatClampNeg (some (uu_13 0))) (4 : Int32).toNatClampNeg (some (uu_16 0))) (5 : Int32).toNatClampNeg (some (uu_19 0))) (6 : Int32).toNatClampNeg (some (uu_22 0))) (7 : Int32).toNatClampNeg (some (uu_25 0))) (8 : Int32).toNatClampNeg (some (uu_28 0)))))))) :: fl [[(h0, .inr (7, [.int (0 : Int32), .int (0 : Int32), .ref q_1]))], wSt G uu_4 stZ, wSt G uu_7 stZ, wSt G uu_10 stZ, wSt G uu_13 stZ, wSt G uu_16 stZ, wSt G uu_19 stZ, wSt G uu_22 stZ, wSt G uu_25 stZ, wSt G uu_28 stZ]) from hD)
                      have hP := fl_sub (bs := [[(q_1, .inl (G.2.1 1, 9, .inr (.inr (.inr (.inr (fun j => some ((pk9 uu_4 uu_7 uu_10 uu_13 uu_16 uu_19 uu_22 uu_25 uu_28) j 0)))))))], [(h0, .inr (7, [.int (0 : Int32), .int (0 : Int32), .ref q_1]))], wSt G uu_4 stZ, wSt G uu_7 stZ, wSt G uu_10 stZ, wSt G uu_13 stZ, wSt G uu_16 stZ, wSt G uu_19 stZ, wSt G uu_22 stZ, wSt G uu_25 stZ, wSt G uu_28 stZ]) (cs := [[(h0, .inr (7, [.int (0 : Int32), .int (0 : Int32), .ref q_1]))], [(q_1, .inl (G.2.1 1, 9, .inr (.inr (.inr (.inr (fun j => some ((pk9 uu_4 uu_7 uu_10 uu_13 uu_16 uu_19 uu_22 uu_25 uu_28) j 0)))))))], wSt G uu_4 stZ, wSt G uu_7 stZ, wSt G uu_10 stZ, wSt G uu_13 stZ, wSt G uu_16 stZ, wSt G uu_19 stZ, wSt G uu_22 stZ, wSt G uu_25 stZ, wSt G uu_28 stZ]) [1, 0, 2, 3, 4, 5, 6, 7, 8, 9, 10] rfl hP
                      have hD := fl_subD (bs := [[(q_1, .inl (G.2.1 1, 9, .inr (.inr (.inr (.inr (fun j => some ((pk9 uu_4 uu_7 uu_10 uu_13 uu_16 uu_19 uu_22 uu_25 uu_28) j 0)))))))], [(h0, .inr (7, [.int (0 : Int32), .int (0 : Int32), .ref q_1]))], wSt G uu_4 stZ, wSt G uu_7 stZ, wSt G uu_10 stZ, wSt G uu_13 stZ, wSt G uu_16 stZ, wSt G uu_19 stZ, wSt G uu_22 stZ, wSt G uu_25 stZ, wSt G uu_28 stZ]) (cs := [[(h0, .inr (7, [.int (0 : Int32), .int (0 : Int32), .ref q_1]))], [(q_1, .inl (G.2.1 1, 9, .inr (.inr (.inr (.inr (fun j => some ((pk9 uu_4 uu_7 uu_10 uu_13 uu_16 uu_19 uu_22 uu_25 uu_28) j 0)))))))], wSt G uu_4 stZ, wSt G uu_7 stZ, wSt G uu_10 stZ, wSt G uu_13 stZ, wSt G uu_16 stZ, wSt G uu_19 stZ, wSt G uu_22 stZ, wSt G uu_25 stZ, wSt G uu_28 stZ]) [1, 0, 2, 3, 4, 5, 6, 7, 8, 9, 10] rfl rfl hD
                      exact w_retV (u := (q_1, (pk9 uu_4 uu_7 uu_10 uu_13 uu_16 uu_19 uu_22 uu_25 uu_28))) hx hb hr hlk hS rfl trivial hP hD (Nat.le_of_ble_eq_true rfl) (Nat.le_of_ble_eq_true rfl) dX4_init_53
                    · exact absurd c_29 (by decide)
