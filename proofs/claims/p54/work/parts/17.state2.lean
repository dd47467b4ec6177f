theorem dX8_lookDayByDay_0 : decode cX8_lookDayByDay 0 = .ok (.aload_n 0, 1) := by decide +kernel
theorem dX8_lookDayByDay_1 : decode cX8_lookDayByDay 1 = .ok (.invokevirtual 128, 3) := by decide +kernel
theorem dX8_lookDayByDay_4 : decode cX8_lookDayByDay 4 = .ok (.istore_n 2, 1) := by decide +kernel
theorem dX8_lookDayByDay_5 : decode cX8_lookDayByDay 5 = .ok (.iconst 0, 1) := by decide +kernel
theorem dX8_lookDayByDay_6 : decode cX8_lookDayByDay 6 = .ok (.istore_n 3, 1) := by decide +kernel
theorem dX8_lookDayByDay_7 : decode cX8_lookDayByDay 7 = .ok (.iload_n 3, 1) := by decide +kernel
theorem dX8_lookDayByDay_8 : decode cX8_lookDayByDay 8 = .ok (.bipush 24, 2) := by decide +kernel
theorem dX8_lookDayByDay_10 : decode cX8_lookDayByDay 10 = .ok (.imul, 1) := by decide +kernel
theorem dX8_lookDayByDay_11 : decode cX8_lookDayByDay 11 = .ok (.iload_n 2, 1) := by decide +kernel
theorem dX8_lookDayByDay_12 : decode cX8_lookDayByDay 12 = .ok (.isub, 1) := by decide +kernel
theorem dX8_lookDayByDay_13 : decode cX8_lookDayByDay 13 = .ok (.sipush 1000, 3) := by decide +kernel
theorem dX8_lookDayByDay_16 : decode cX8_lookDayByDay 16 = .ok (.if_icmp .gt 67, 3) := by decide +kernel
theorem dX8_lookDayByDay_83 : decode cX8_lookDayByDay 83 = .ok (.iconst (-1), 1) := by decide +kernel
theorem dX8_lookDayByDay_84 : decode cX8_lookDayByDay 84 = .ok (.ireturn, 1) := by decide +kernel
theorem dX8_lookDayByDay_19 : decode cX8_lookDayByDay 19 = .ok (.iload_n 3, 1) := by decide +kernel
theorem dX8_lookDayByDay_20 : decode cX8_lookDayByDay 20 = .ok (.ifCond .ne 7, 3) := by decide +kernel
theorem dX8_lookDayByDay_27 : decode cX8_lookDayByDay 27 = .ok (.iconst 0, 1) := by decide +kernel
theorem dX8_lookDayByDay_28 : decode cX8_lookDayByDay 28 = .ok (.istore 4, 2) := by decide +kernel
theorem dX8_lookDayByDay_30 : decode cX8_lookDayByDay 30 = .ok (.aload_n 0, 1) := by decide +kernel
theorem dX8_lookDayByDay_31 : decode cX8_lookDayByDay 31 = .ok (.iload_n 1, 1) := by decide +kernel
theorem dX8_lookDayByDay_32 : decode cX8_lookDayByDay 32 = .ok (.aload_n 0, 1) := by decide +kernel
theorem dX8_lookDayByDay_33 : decode cX8_lookDayByDay 33 = .ok (.invokevirtual 72, 3) := by decide +kernel
theorem dX8_lookDayByDay_36 : decode cX8_lookDayByDay 36 = .ok (.iload_n 3, 1) := by decide +kernel
theorem dX8_lookDayByDay_37 : decode cX8_lookDayByDay 37 = .ok (.iadd, 1) := by decide +kernel
theorem dX8_lookDayByDay_38 : decode cX8_lookDayByDay 38 = .ok (.iload 4, 2) := by decide +kernel
theorem dX8_lookDayByDay_40 : decode cX8_lookDayByDay 40 = .ok (.invokevirtual 137, 3) := by decide +kernel
theorem u_1552 : Cond.methodLink RX8 137 yX8_firstUnlockedHour ∈ UW := uw 1552 (by decide +kernel) rfl
theorem u_1554 : Cond.instanceMethod yX8_firstUnlockedHour ∈ UW := uw 1554 (by decide +kernel) rfl
theorem u_19 : Cond.selects RX8 yX8_firstUnlockedHour yX8_firstUnlockedHour ∈ UW := uw 19 (by decide +kernel) rfl
theorem u_1555 : Cond.code yX8_firstUnlockedHour cX8_firstUnlockedHour 5 (some .int) ∈ UW := uw 1555 (by decide +kernel) rfl
theorem g_X8_137 : GoodIn UW (wsV RX8 137 RX8 yX8_firstUnlockedHour (wsU yX8_firstUnlockedHour cX8_firstUnlockedHour 5 (some .int))) := gV u_1552 u_1554 u_19 u_22 u_1555
theorem hdv_X8_firstUnlockedHour : yX8_firstUnlockedHour.cls = RX8 ∧ yX8_firstUnlockedHour.cls ≠ "java/lang/invoke/MethodHandle" ∧ yX8_firstUnlockedHour.cls ≠ "java/lang/invoke/VarHandle" ∧ (parseMethodDescriptor yX8_firstUnlockedHour.desc).map (fun d => d.parameters.length) = some 3 := by decide +kernel
theorem dX8_lookDayByDay_43 : decode cX8_lookDayByDay 43 = .ok (.istore 5, 2) := by decide +kernel
theorem dX8_lookDayByDay_45 : decode cX8_lookDayByDay 45 = .ok (.iload 5, 2) := by decide +kernel
theorem dX8_lookDayByDay_47 : decode cX8_lookDayByDay 47 = .ok (.iconst (-1), 1) := by decide +kernel
theorem dX8_lookDayByDay_48 : decode cX8_lookDayByDay 48 = .ok (.if_icmp .eq 29, 3) := by decide +kernel
theorem dX8_lookDayByDay_77 : decode cX8_lookDayByDay 77 = .ok (.iinc 3 1, 3) := by decide +kernel
theorem dX8_lookDayByDay_80 : decode cX8_lookDayByDay 80 = .ok (.goto (-73), 3) := by decide +kernel
theorem dX8_lookDayByDay_51 : decode cX8_lookDayByDay 51 = .ok (.iload_n 3, 1) := by decide +kernel
theorem dX8_lookDayByDay_52 : decode cX8_lookDayByDay 52 = .ok (.bipush 24, 2) := by decide +kernel
theorem dX8_lookDayByDay_54 : decode cX8_lookDayByDay 54 = .ok (.imul, 1) := by decide +kernel
theorem dX8_lookDayByDay_55 : decode cX8_lookDayByDay 55 = .ok (.iload_n 2, 1) := by decide +kernel
theorem dX8_lookDayByDay_56 : decode cX8_lookDayByDay 56 = .ok (.isub, 1) := by decide +kernel
theorem dX8_lookDayByDay_57 : decode cX8_lookDayByDay 57 = .ok (.iload 5, 2) := by decide +kernel
theorem dX8_lookDayByDay_59 : decode cX8_lookDayByDay 59 = .ok (.iadd, 1) := by decide +kernel
theorem dX8_lookDayByDay_60 : decode cX8_lookDayByDay 60 = .ok (.istore 6, 2) := by decide +kernel
theorem dX8_lookDayByDay_62 : decode cX8_lookDayByDay 62 = .ok (.iload 6, 2) := by decide +kernel
theorem dX8_lookDayByDay_64 : decode cX8_lookDayByDay 64 = .ok (.sipush 1000, 3) := by decide +kernel
theorem dX8_lookDayByDay_67 : decode cX8_lookDayByDay 67 = .ok (.if_icmp .gt 8, 3) := by decide +kernel
theorem dX8_lookDayByDay_75 : decode cX8_lookDayByDay 75 = .ok (.iconst (-1), 1) := by decide +kernel
theorem dX8_lookDayByDay_76 : decode cX8_lookDayByDay 76 = .ok (.ireturn, 1) := by decide +kernel
theorem dX8_lookDayByDay_70 : decode cX8_lookDayByDay 70 = .ok (.iload 6, 2) := by decide +kernel
theorem dX8_lookDayByDay_72 : decode cX8_lookDayByDay 72 = .ok (.goto 4, 3) := by decide +kernel
theorem dX8_lookDayByDay_23 : decode cX8_lookDayByDay 23 = .ok (.iload_n 2, 1) := by decide +kernel
theorem dX8_lookDayByDay_24 : decode cX8_lookDayByDay 24 = .ok (.goto 4, 3) := by decide +kernel
def lp_X8_lookDayByDay_7 (v : StV) (dr : Int32) : Nat → Int32 → Int32
  | 0, _ => 0
  | n + 1, x3 => (if (1000 : Int32) < ((x3 * (24 : Int32)) - (f_X8_hourNow v)) then (-1 : Int32) else (if x3 = (0 : Int32) then (let y_12 : Int32 := (f_X8_firstUnlockedHour v dr ((f_X8_today v) + x3) (f_X8_hourNow v)); (if y_12 = (-1 : Int32) then (lp_X8_lookDayByDay_7 v dr n (x3 + 1)) else (let y_14 : Int32 := (((x3 * (24 : Int32)) - (f_X8_hourNow v)) + y_12); (if (1000 : Int32) < y_14 then (-1 : Int32) else y_14)))) else (let y_6 : Int32 := (f_X8_firstUnlockedHour v dr ((f_X8_today v) + x3) (0 : Int32)); (if y_6 = (-1 : Int32) then (lp_X8_lookDayByDay_7 v dr n (x3 + 1)) else (let y_8 : Int32 := (((x3 * (24 : Int32)) - (f_X8_hourNow v)) + y_6); (if (1000 : Int32) < y_8 then (-1 : Int32) else y_8))))))
def f_X8_lookDayByDay (v : StV) (dr : Int32) : Int32 := (lp_X8_lookDayByDay_7 v dr 44 (0 : Int32))
set_option maxHeartbeats 4000000 in
set_option maxRecDepth 100000 in
theorem c_X8_lookDayByDay (l : Launch) (G : GG) (va : Nat → Nat) (v : StV) (dr : Int32) : rMet l yX8_lookDayByDay cX8_lookDayByDay 7 (some .int) 5 G (fl [[((va 0), .inr (10, [.int v.1, .int v.2.1, .ref (va 1), .ref (va 6), .ref (va 10), .ref (va 13)]))], wDo G (va 1) (va 2) (va 3) (va 4) (va 5) v.2.2.1, wEx G (va 6) (va 7) (va 8) (va 9) v.2.2.2.1, wPe G (va 10) (va 11) (va 12) v.2.2.2.2.1, wAu G (va 13) (va 14) (va 15) (va 16) (va 17) (va 18) (va 19) v.2.2.2.2.2]) [.ref (va 0), .int dr] (some (.int (f_X8_lookDayByDay v dr))) (True) := by
  refine r_start (by decide +kernel) (Nat.le_of_ble_eq_true rfl) ?_
  intro p e s m below meth c hx hb hr hml hts hown hlk hP hK hST ls hl
  have hS : va_S (fun _ => False) s.heap s.heap [] := va_S.rf
  have hown : s.vm.findClass RX8 = some m.cls := hown
  have hl : lv_has ls 7 [(0, .ref (va 0)), (1, .int dr)] := hl
  have hF : f_X8_lookDayByDay v dr = (lp_X8_lookDayByDay_7 v dr 44 (0 : Int32)) := rfl
  refine lv_aload_n hx hb dX8_lookDayByDay_0 rfl (lv_at hl 0 rfl) ?_
  refine r_V (own := RX8) (v := (some (.int (f_X8_hourNow v)))) (st1 := [.int (f_X8_hourNow v)]) (As := []) (rest := []) (c_X8_hourNow l G va v) ⟨hx, hb, hml, hown, hts⟩ g_X8_128 hdv_X8_hourNow hK hST hS hP [0, 1, 2, 3, 4, 5, 6, 7, 8, 9, 10, 11, 12, 13, 14, 15, 16, 17, 18, 19] rfl (k0 := 0) rfl rfl rfl ⟨Nat.le_of_ble_eq_true rfl, Nat.le_of_ble_eq_true rfl⟩ ⟨Nat.le_of_ble_eq_true rfl, Nat.le_of_ble_eq_true rfl⟩ rfl hl.1 rfl (Nat.le_of_ble_eq_true rfl) dX8_lookDayByDay_1 rfl (fun b_1 => ?_)
  refine lv_istore_n (lv' := [(2, .int (f_X8_hourNow v)), (0, .ref (va 0)), (1, .int dr)]) hx hb dX8_lookDayByDay_4 rfl hl (by decide) rfl (fun ls hl => ?_)
  refine lv_iconst (v := (0 : Int32)) hx hb dX8_lookDayByDay_5 (by decide) ?_
  refine lv_istore_n (lv' := [(3, .int (0 : Int32)), (2, .int (f_X8_hourNow v)), (0, .ref (va 0)), (1, .int dr)]) hx hb dX8_lookDayByDay_6 rfl hl (by decide) rfl (fun ls hl => ?_)
  have L7 : ∀ (n : Nat) (x3 : Int32) (ls : Array Slot), lv_has ls 7 [(3, .int x3), (2, .int (f_X8_hourNow v)), (0, .ref (va 0)), (1, .int dr)] → (lkI (f_X8_hourNow v) x3 n) → f_X8_lookDayByDay v dr = lp_X8_lookDayByDay_7 v dr n x3 → W p l e (rmd 5 0 0) s m ([.ref (va 0), .int dr] : List Value).toArray below meth c s.heap [] 0 0 (MQ below (rQ (some (.int (f_X8_lookDayByDay v dr))) (True)) ([.ref (va 0), .int dr] : List Value).toArray s 0 0 (fun _ => False)) (F0 m 7 ls []) := by
    intro n
    induction n with
    | zero => intro x3 ls hl hu; exact absurd hu (lkI_0)
    | succ n ih =>
      intro x3 ls hl hu hF
      have hF : f_X8_lookDayByDay v dr = (if (1000 : Int32) < ((x3 * (24 : Int32)) - (f_X8_hourNow v)) then (-1 : Int32) else (if x3 = (0 : Int32) then (let y_12 : Int32 := (f_X8_firstUnlockedHour v dr ((f_X8_today v) + x3) (f_X8_hourNow v)); (if y_12 = (-1 : Int32) then (lp_X8_lookDayByDay_7 v dr n (x3 + 1)) else (let y_14 : Int32 := (((x3 * (24 : Int32)) - (f_X8_hourNow v)) + y_12); (if (1000 : Int32) < y_14 then (-1 : Int32) else y_14)))) else (let y_6 : Int32 := (f_X8_firstUnlockedHour v dr ((f_X8_today v) + x3) (0 : Int32)); (if y_6 = (-1 : Int32) then (lp_X8_lookDayByDay_7 v dr n (x3 + 1)) else (let y_8 : Int32 := (((x3 * (24 : Int32)) - (f_X8_hourNow v)) + y_6); (if (1000 : Int32) < y_8 then (-1 : Int32) else y_8)))))) := hF
      refine lv_iload_n hx hb dX8_lookDayByDay_7 rfl (lv_at hl 0 rfl) ?_
      refine lv_bipush (v := (24 : Int32)) hx hb dX8_lookDayByDay_8 (by decide) ?_
      refine lv_imul hx hb dX8_lookDayByDay_10 ?_
      refine lv_iload_n hx hb dX8_lookDayByDay_11 rfl (lv_at hl 1 rfl) ?_
      refine lv_isub hx hb dX8_lookDayByDay_12 ?_
      refine lv_sipush (v := (1000 : Int32)) hx hb dX8_lookDayByDay_13 (by decide) ?_
      refine lv_icmp_gt (tgt := 83) hx hb dX8_lookDayByDay_16 (by decide) (fun c_2 => ?_) (fun c_2 => ?_)
      · have hF := hF.trans (if_pos c_2)
        refine lv_iconst (v := (-1 : Int32)) hx hb dX8_lookDayByDay_83 (by decide) ?_
        exact r_ret hx hb hr hlk rfl (by rw [hF]) trivial dX8_lookDayByDay_84
      · have hF := hF.trans (if_neg c_2)
        refine lv_iload_n hx hb dX8_lookDayByDay_19 rfl (lv_at hl 0 rfl) ?_
        refine lv_if_ne (tgt := 27) hx hb dX8_lookDayByDay_20 (by decide) (fun c_3 => ?_) (fun c_3 => ?_)
        · have hF := hF.trans (if_neg c_3)
          refine lv_iconst (v := (0 : Int32)) hx hb dX8_lookDayByDay_27 (by decide) ?_
          refine lv_istore (lv' := [(4, .int (0 : Int32)), (3, .int x3), (2, .int (f_X8_hourNow v)), (0, .ref (va 0)), (1, .int dr)]) hx hb dX8_lookDayByDay_28 hl (by decide) rfl (fun ls hl => ?_)
          refine lv_aload_n hx hb dX8_lookDayByDay_30 rfl (lv_at hl 3 rfl) ?_
          refine lv_iload_n hx hb dX8_lookDayByDay_31 rfl (lv_at hl 4 rfl) ?_
          refine lv_aload_n hx hb dX8_lookDayByDay_32 rfl (lv_at hl 3 rfl) ?_
          refine r_V (own := RX8) (v := (some (.int (f_X8_today v)))) (st1 := [.int (f_X8_today v), .int dr, .ref (va 0)]) (As := []) (rest := [.int dr, .ref (va 0)]) (c_X8_today l G va v) ⟨hx, hb, hml, hown, hts⟩ g_X8_72 hdv_X8_today hK hST hS hP [0, 1, 2, 3, 4, 5, 6, 7, 8, 9, 10, 11, 12, 13, 14, 15, 16, 17, 18, 19] rfl (k0 := 0) rfl rfl rfl ⟨Nat.le_of_ble_eq_true rfl, Nat.le_of_ble_eq_true rfl⟩ ⟨Nat.le_of_ble_eq_true rfl, Nat.le_of_ble_eq_true rfl⟩ rfl hl.1 rfl (Nat.le_of_ble_eq_true rfl) dX8_lookDayByDay_33 rfl (fun b_4 => ?_)
          refine lv_iload_n hx hb dX8_lookDayByDay_36 rfl (lv_at hl 1 rfl) ?_
          refine lv_iadd hx hb dX8_lookDayByDay_37 ?_
          refine lv_iload hx hb dX8_lookDayByDay_38 (lv_at hl 0 rfl) ?_
          refine r_V (own := RX8) (v := (some (.int (f_X8_firstUnlockedHour v dr ((f_X8_today v) + x3) (0 : Int32))))) (st1 := [.int (f_X8_firstUnlockedHour v dr ((f_X8_today v) + x3) (0 : Int32))]) (As := [.int dr, .int ((f_X8_today v) + x3), .int (0 : Int32)]) (rest := []) (c_X8_firstUnlockedHour l G va v dr ((f_X8_today v) + x3) (0 : Int32)) ⟨hx, hb, hml, hown, hts⟩ g_X8_137 hdv_X8_firstUnlockedHour hK hST hS hP [0, 1, 2, 3, 4, 5, 6, 7, 8, 9, 10, 11, 12, 13, 14, 15, 16, 17, 18, 19] rfl (k0 := 0) rfl rfl rfl ⟨Nat.le_of_ble_eq_true rfl, Nat.le_of_ble_eq_true rfl⟩ ⟨Nat.le_of_ble_eq_true rfl, Nat.le_of_ble_eq_true rfl⟩ rfl hl.1 rfl (Nat.le_of_ble_eq_true rfl) dX8_lookDayByDay_40 rfl (fun b_5 => ?_)
          refine lv_topi (fun y_6 ey_6 => ?_)
          have hF : f_X8_lookDayByDay v dr = (if y_6 = (-1 : Int32) then (lp_X8_lookDayByDay_7 v dr n (x3 + 1)) else (let y_8 : Int32 := (((x3 * (24 : Int32)) - (f_X8_hourNow v)) + y_6); (if (1000 : Int32) < y_8 then (-1 : Int32) else y_8))) := by subst ey_6; exact hF
          refine lv_istore (lv' := [(5, .int y_6), (4, .int (0 : Int32)), (3, .int x3), (2, .int (f_X8_hourNow v)), (0, .ref (va 0)), (1, .int dr)]) hx hb dX8_lookDayByDay_43 hl (by decide) rfl (fun ls hl => ?_)
          refine lv_iload hx hb dX8_lookDayByDay_45 (lv_at hl 0 rfl) ?_
          refine lv_iconst (v := (-1 : Int32)) hx hb dX8_lookDayByDay_47 (by decide) ?_
          refine lv_icmp_eq (tgt := 77) hx hb dX8_lookDayByDay_48 (by decide) (fun c_7 => ?_) (fun c_7 => ?_)
          · have hF := hF.trans (if_pos c_7)
            refine lv_iinc (v := (x3 + 1)) (lv' := [(3, .int (x3 + 1)), (5, .int y_6), (4, .int (0 : Int32)), (2, .int (f_X8_hourNow v)), (0, .ref (va 0)), (1, .int dr)]) hx hb dX8_lookDayByDay_77 hl (k := 2) rfl rfl (by decide) rfl (fun ls hl => ?_)
            refine lv_goto (tgt := 7) hx hb dX8_lookDayByDay_80 (by decide) ?_
            exact ih (x3 + 1) ls (lv_sub hl [0, 3, 4, 5] rfl) (lkI_s c_2 hu) hF
          · have hF := hF.trans (if_neg c_7)
            refine lv_iload_n hx hb dX8_lookDayByDay_51 rfl (lv_at hl 2 rfl) ?_
            refine lv_bipush (v := (24 : Int32)) hx hb dX8_lookDayByDay_52 (by decide) ?_
            refine lv_imul hx hb dX8_lookDayByDay_54 ?_
            refine lv_iload_n hx hb dX8_lookDayByDay_55 rfl (lv_at hl 3 rfl) ?_
            refine lv_isub hx hb dX8_lookDayByDay_56 ?_
            refine lv_iload hx hb dX8_lookDayByDay_57 (lv_at hl 0 rfl) ?_
            refine lv_iadd hx hb dX8_lookDayByDay_59 ?_
            refine lv_topi (fun y_8 ey_8 => ?_)
            have hF : f_X8_lookDayByDay v dr = (if (1000 : Int32) < y_8 then (-1 : Int32) else y_8) := by subst ey_8; exact hF
            refine lv_istore (lv' := [(6, .int y_8), (5, .int y_6), (4, .int (0 : Int32)), (3, .int x3), (2, .int (f_X8_hourNow v)), (0, .ref (va 0)), (1, .int dr)]) hx hb dX8_lookDayByDay_60 hl (by decide) rfl (fun ls hl => ?_)
            refine lv_iload hx hb dX8_lookDayByDay_62 (lv_at hl 0 rfl) ?_
            refine lv_sipush (v := (1000 : Int32)) hx hb dX8_lookDayByDay_64 (by decide) ?_
            refine lv_icmp_gt (tgt := 75) hx hb dX8_lookDayByDay_67 (by decide) (fun c_9 => ?_) (fun c_9 => ?_)
            · have hF := hF.trans (if_pos c_9)
              refine lv_iconst (v := (-1 : Int32)) hx hb dX8_lookDayByDay_75 (by decide) ?_
              exact r_ret hx hb hr hlk rfl (by rw [hF]) trivial dX8_lookDayByDay_76
            · have hF := hF.trans (if_neg c_9)
              refine lv_iload hx hb dX8_lookDayByDay_70 (lv_at hl 0 rfl) ?_
              refine lv_goto (tgt := 76) hx hb dX8_lookDayByDay_72 (by decide) ?_
              exact r_ret hx hb hr hlk rfl (by rw [hF]) trivial dX8_lookDayByDay_76
        · have hF := hF.trans (if_pos c_3)
          refine lv_iload_n hx hb dX8_lookDayByDay_23 rfl (lv_at hl 1 rfl) ?_
          refine lv_goto (tgt := 28) hx hb dX8_lookDayByDay_24 (by decide) ?_
          refine lv_istore (lv' := [(4, .int (f_X8_hourNow v)), (3, .int x3), (2, .int (f_X8_hourNow v)), (0, .ref (va 0)), (1, .int dr)]) hx hb dX8_lookDayByDay_28 hl (by decide) rfl (fun ls hl => ?_)
          refine lv_aload_n hx hb dX8_lookDayByDay_30 rfl (lv_at hl 3 rfl) ?_
          refine lv_iload_n hx hb dX8_lookDayByDay_31 rfl (lv_at hl 4 rfl) ?_
          refine lv_aload_n hx hb dX8_lookDayByDay_32 rfl (lv_at hl 3 rfl) ?_
          refine r_V (own := RX8) (v := (some (.int (f_X8_today v)))) (st1 := [.int (f_X8_today v), .int dr, .ref (va 0)]) (As := []) (rest := [.int dr, .ref (va 0)]) (c_X8_today l G va v) ⟨hx, hb, hml, hown, hts⟩ g_X8_72 hdv_X8_today hK hST hS hP [0, 1, 2, 3, 4, 5, 6, 7, 8, 9, 10, 11, 12, 13, 14, 15, 16, 17, 18, 19] rfl (k0 := 0) rfl rfl rfl ⟨Nat.le_of_ble_eq_true rfl, Nat.le_of_ble_eq_true rfl⟩ ⟨Nat.le_of_ble_eq_true rfl, Nat.le_of_ble_eq_true rfl⟩ rfl hl.1 rfl (Nat.le_of_ble_eq_true rfl) dX8_lookDayByDay_33 rfl (fun b_10 => ?_)
          refine lv_iload_n hx hb dX8_lookDayByDay_36 rfl (lv_at hl 1 rfl) ?_
          refine lv_iadd hx hb dX8_lookDayByDay_37 ?_
          refine lv_iload hx hb dX8_lookDayByDay_38 (lv_at hl 0 rfl) ?_
          refine r_V (own := RX8) (v := (some (.int (f_X8_firstUnlockedHour v dr ((f_X8_today v) + x3) (f_X8_hourNow v))))) (st1 := [.int (f_X8_firstUnlockedHour v dr ((f_X8_today v) + x3) (f_X8_hourNow v))]) (As := [.int dr, .int ((f_X8_today v) + x3), .int (f_X8_hourNow v)]) (rest := []) (c_X8_firstUnlockedHour l G va v dr ((f_X8_today v) + x3) (f_X8_hourNow v)) ⟨hx, hb, hml, hown, hts⟩ g_X8_137 hdv_X8_firstUnlockedHour hK hST hS hP [0, 1, 2, 3, 4, 5, 6, 7, 8, 9, 10, 11, 12, 13, 14, 15, 16, 17, 18, 19] rfl (k0 := 0) rfl rfl rfl ⟨Nat.le_of_ble_eq_true rfl, Nat.le_of_ble_eq_true rfl⟩ ⟨Nat.le_of_ble_eq_true rfl, Nat.le_of_ble_eq_true rfl⟩ rfl hl.1 rfl (Nat.le_of_ble_eq_true rfl) dX8_lookDayByDay_40 rfl (fun b_11 => ?_)
          refine lv_topi (fun y_12 ey_12 => ?_)
          have hF : f_X8_lookDayByDay v dr = (if y_12 = (-1 : Int32) then (lp_X8_lookDayByDay_7 v dr n (x3 + 1)) else (let y_14 : Int32 := (((x3 * (24 : Int32)) - (f_X8_hourNow v)) + y_12); (if (1000 : Int32) < y_14 then (-1 : Int32) else y_14))) := by subst ey_12; exact hF
          refine lv_istore (lv' := [(5, .int y_12), (4, .int (f_X8_hourNow v)), (3, .int x3), (2, .int (f_X8_hourNow v)), (0, .ref (va 0)), (1, .int dr)]) hx hb dX8_lookDayByDay_43 hl (by decide) rfl (fun ls hl => ?_)
          refine lv_iload hx hb dX8_lookDayByDay_45 (lv_at hl 0 rfl) ?_
          refine lv_iconst (v := (-1 : Int32)) hx hb dX8_lookDayByDay_47 (by decide) ?_
          refine lv_icmp_eq (tgt := 77) hx hb dX8_lookDayByDay_48 (by decide) (fun c_13 => ?_) (fun c_13 => ?_)
          · have hF := hF.trans (if_pos c_13)
            refine lv_iinc (v := (x3 + 1)) (lv' := [(3, .int (x3 + 1)), (5, .int y_12), (4, .int (f_X8_hourNow v)), (2, .int (f_X8_hourNow v)), (0, .ref (va 0)), (1, .int dr)]) hx hb dX8_lookDayByDay_77 hl (k := 2) rfl rfl (by decide) rfl (fun ls hl => ?_)
            refine lv_goto (tgt := 7) hx hb dX8_lookDayByDay_80 (by decide) ?_
            exact ih (x3 + 1) ls (lv_sub hl [0, 3, 4, 5] rfl) (lkI_s c_2 hu) hF
          · have hF := hF.trans (if_neg c_13)
            refine lv_iload_n hx hb dX8_lookDayByDay_51 rfl (lv_at hl 2 rfl) ?_
            refine lv_bipush (v := (24 : Int32)) hx hb dX8_lookDayByDay_52 (by decide) ?_
            refine lv_imul hx hb dX8_lookDayByDay_54 ?_
            refine lv_iload_n hx hb dX8_lookDayByDay_55 rfl (lv_at hl 3 rfl) ?_
            refine lv_isub hx hb dX8_lookDayByDay_56 ?_
            refine lv_iload hx hb dX8_lookDayByDay_57 (lv_at hl 0 rfl) ?_
            refine lv_iadd hx hb dX8_lookDayByDay_59 ?_
            refine lv_topi (fun y_14 ey_14 => ?_)
            have hF : f_X8_lookDayByDay v dr = (if (1000 : Int32) < y_14 then (-1 : Int32) else y_14) := by subst ey_14; exact hF
            refine lv_istore (lv' := [(6, .int y_14), (5, .int y_12), (4, .int (f_X8_hourNow v)), (3, .int x3), (2, .int (f_X8_hourNow v)), (0, .ref (va 0)), (1, .int dr)]) hx hb dX8_lookDayByDay_60 hl (by decide) rfl (fun ls hl => ?_)
            refine lv_iload hx hb dX8_lookDayByDay_62 (lv_at hl 0 rfl) ?_
            refine lv_sipush (v := (1000 : Int32)) hx hb dX8_lookDayByDay_64 (by decide) ?_
            refine lv_icmp_gt (tgt := 75) hx hb dX8_lookDayByDay_67 (by decide) (fun c_15 => ?_) (fun c_15 => ?_)
            · have hF := hF.trans (if_pos c_15)
              refine lv_iconst (v := (-1 : Int32)) hx hb dX8_lookDayByDay_75 (by decide) ?_
              exact r_ret hx hb hr hlk rfl (by rw [hF]) trivial dX8_lookDayByDay_76
            · have hF := hF.trans (if_neg c_15)
              refine lv_iload hx hb dX8_lookDayByDay_70 (lv_at hl 0 rfl) ?_
              refine lv_goto (tgt := 76) hx hb dX8_lookDayByDay_72 (by decide) ?_
              exact r_ret hx hb hr hlk rfl (by rw [hF]) trivial dX8_lookDayByDay_76
  exact L7 44 (0 : Int32) ls (lv_sub hl [0, 1, 2, 3] rfl) (⟨(fmod_in (by decide)).1, (fmod_in (by decide)).2, by decide, by decide, by decide⟩) hF
theorem dX8_countHoursOnDay_0 : decode cX8_countHoursOnDay 0 = .ok (.aload_n 0, 1) := by decide +kernel
theorem dX8_countHoursOnDay_1 : decode cX8_countHoursOnDay 1 = .ok (.getfield 28, 3) := by decide +kernel
theorem dX8_countHoursOnDay_4 : decode cX8_countHoursOnDay 4 = .ok (.aload_n 0, 1) := by decide +kernel
theorem dX8_countHoursOnDay_5 : decode cX8_countHoursOnDay 5 = .ok (.getfield 28, 3) := by decide +kernel
theorem dX8_countHoursOnDay_8 : decode cX8_countHoursOnDay 8 = .ok (.iload_n 1, 1) := by decide +kernel
theorem dX8_countHoursOnDay_9 : decode cX8_countHoursOnDay 9 = .ok (.iload_n 2, 1) := by decide +kernel
theorem dX8_countHoursOnDay_10 : decode cX8_countHoursOnDay 10 = .ok (.invokevirtual 79, 3) := by decide +kernel
theorem dX8_countHoursOnDay_13 : decode cX8_countHoursOnDay 13 = .ok (.invokevirtual 115, 3) := by decide +kernel
theorem dX8_countHoursOnDay_16 : decode cX8_countHoursOnDay 16 = .ok (.istore_n 3, 1) := by decide +kernel
theorem dX8_countHoursOnDay_17 : decode cX8_countHoursOnDay 17 = .ok (.iload_n 3, 1) := by decide +kernel
theorem dX8_countHoursOnDay_18 : decode cX8_countHoursOnDay 18 = .ok (.iconst 1, 1) := by decide +kernel
theorem dX8_countHoursOnDay_19 : decode cX8_countHoursOnDay 19 = .ok (.if_icmp .ne 6, 3) := by decide +kernel
theorem dX8_countHoursOnDay_25 : decode cX8_countHoursOnDay 25 = .ok (.iload_n 3, 1) := by decide +kernel
theorem dX8_countHoursOnDay_26 : decode cX8_countHoursOnDay 26 = .ok (.iconst 2, 1) := by decide +kernel
theorem dX8_countHoursOnDay_27 : decode cX8_countHoursOnDay 27 = .ok (.if_icmp .eq 19, 3) := by decide +kernel
theorem dX8_countHoursOnDay_46 : decode cX8_countHoursOnDay 46 = .ok (.iconst 0, 1) := by decide +kernel
theorem dX8_countHoursOnDay_47 : decode cX8_countHoursOnDay 47 = .ok (.ireturn, 1) := by decide +kernel
theorem dX8_countHoursOnDay_30 : decode cX8_countHoursOnDay 30 = .ok (.aload_n 0, 1) := by decide +kernel
theorem dX8_countHoursOnDay_31 : decode cX8_countHoursOnDay 31 = .ok (.getfield 21, 3) := by decide +kernel
theorem dX8_countHoursOnDay_34 : decode cX8_countHoursOnDay 34 = .ok (.iload_n 1, 1) := by decide +kernel
theorem dX8_countHoursOnDay_35 : decode cX8_countHoursOnDay 35 = .ok (.aload_n 0, 1) := by decide +kernel
theorem dX8_countHoursOnDay_36 : decode cX8_countHoursOnDay 36 = .ok (.iload_n 2, 1) := by decide +kernel
theorem dX8_countHoursOnDay_37 : decode cX8_countHoursOnDay 37 = .ok (.invokevirtual 100, 3) := by decide +kernel
theorem dX8_countHoursOnDay_40 : decode cX8_countHoursOnDay 40 = .ok (.invokevirtual 125, 3) := by decide +kernel
theorem dX8_countHoursOnDay_43 : decode cX8_countHoursOnDay 43 = .ok (.ifCond .ne 5, 3) := by decide +kernel
theorem dX8_countHoursOnDay_48 : decode cX8_countHoursOnDay 48 = .ok (.aload_n 0, 1) := by decide +kernel
theorem dX8_countHoursOnDay_49 : decode cX8_countHoursOnDay 49 = .ok (.getfield 21, 3) := by decide +kernel
theorem dX8_countHoursOnDay_52 : decode cX8_countHoursOnDay 52 = .ok (.iload_n 1, 1) := by decide +kernel
theorem dX8_countHoursOnDay_53 : decode cX8_countHoursOnDay 53 = .ok (.invokevirtual 147, 3) := by decide +kernel
theorem u_870 : Cond.methodLink RX8 147 yX2_countHours ∈ UW := uw 870 (by decide +kernel) rfl
theorem u_871 : Cond.instanceMethod yX2_countHours ∈ UW := uw 871 (by decide +kernel) rfl
theorem u_872 : Cond.selects RX2 yX2_countHours yX2_countHours ∈ UW := uw 872 (by decide +kernel) rfl
theorem u_873 : Cond.code yX2_countHours cX2_countHours 3 (some .int) ∈ UW := uw 873 (by decide +kernel) rfl
theorem g_X8_147 : GoodIn UW (wsV RX8 147 RX2 yX2_countHours (wsU yX2_countHours cX2_countHours 3 (some .int))) := gV u_870 u_871 u_872 u_23 u_873
theorem hdv_X2_countHours : yX2_countHours.cls = RX2 ∧ yX2_countHours.cls ≠ "java/lang/invoke/MethodHandle" ∧ yX2_countHours.cls ≠ "java/lang/invoke/VarHandle" ∧ (parseMethodDescriptor yX2_countHours.desc).map (fun d => d.parameters.length) = some 1 := by decide +kernel
theorem dX8_countHoursOnDay_56 : decode cX8_countHoursOnDay 56 = .ok (.ireturn, 1) := by decide +kernel
theorem dX8_countHoursOnDay_22 : decode cX8_countHoursOnDay 22 = .ok (.bipush 24, 2) := by decide +kernel
theorem dX8_countHoursOnDay_24 : decode cX8_countHoursOnDay 24 = .ok (.ireturn, 1) := by decide +kernel
def f_X8_countHoursOnDay (v : StV) (dr : Int32) (dy : Int32) : Int32 := (let y_3 : Int32 := (f_X1_effectAt v.2.2.2.1 (f_X1_positionOf v.2.2.2.1 dr dy)); (if y_3 = (1 : Int32) then (24 : Int32) else (if y_3 = (2 : Int32) then (0 : Int32) else (if (f_X2_containsPhase v.2.2.1 dr (f_X8_phaseFor v dy)) = (0 : Int32) then (0 : Int32) else (f_X2_countHours v.2.2.1 dr)))))
set_option maxHeartbeats 4000000 in
set_option maxRecDepth 100000 in
theorem c_X8_countHoursOnDay (l : Launch) (G : GG) (va : Nat → Nat) (v : StV) (dr : Int32) (dy : Int32) : rMet l yX8_countHoursOnDay cX8_countHoursOnDay 4 (some .int) 3 G (fl [[((va 0), .inr (10, [.int v.1, .int v.2.1, .ref (va 1), .ref (va 6), .ref (va 10), .ref (va 13)]))], wDo G (va 1) (va 2) (va 3) (va 4) (va 5) v.2.2.1, wEx G (va 6) (va 7) (va 8) (va 9) v.2.2.2.1, wPe G (va 10) (va 11) (va 12) v.2.2.2.2.1, wAu G (va 13) (va 14) (va 15) (va 16) (va 17) (va 18) (va 19) v.2.2.2.2.2]) [.ref (va 0), .int dr, .int dy] (some (.int (f_X8_countHoursOnDay v dr dy))) (True) := by
  refine r_start (by decide +kernel) (Nat.le_of_ble_eq_true rfl) ?_
  intro p e s m below meth c hx hb hr hml hts hown hlk hP hK hST ls hl
  have hS : va_S (fun _ => False) s.heap s.heap [] := va_S.rf
  have hown : s.vm.findClass RX8 = some m.cls := hown
  have hl : lv_has ls 4 [(0, .ref (va 0)), (1, .int dr), (2, .int dy)] := hl
  have hF : f_X8_countHoursOnDay v dr dy = (let y_3 : Int32 := (f_X1_effectAt v.2.2.2.1 (f_X1_positionOf v.2.2.2.1 dr dy)); (if y_3 = (1 : Int32) then (24 : Int32) else (if y_3 = (2 : Int32) then (0 : Int32) else (if (f_X2_containsPhase v.2.2.1 dr (f_X8_phaseFor v dy)) = (0 : Int32) then (0 : Int32) else (f_X2_countHours v.2.2.1 dr))))) := rfl
  refine lv_aload_n hx hb dX8_countHoursOnDay_0 rfl (lv_at hl 0 rfl) ?_
  refine va_get (D := G.1) (ci := 10) (v := .ref (va 6)) (C := RX8) (T := TX8) (N := 6) hx hb hts uws_X8 hown hK hP 0 rfl rfl 3 (by decide) (hts _ u_1029) (fun _ h9 => h9) rfl dX8_countHoursOnDay_1 ?_
  refine lv_aload_n hx hb dX8_countHoursOnDay_4 rfl (lv_at hl 0 rfl) ?_
  refine va_get (D := G.1) (ci := 10) (v := .ref (va 6)) (C := RX8) (T := TX8) (N := 6) hx hb hts uws_X8 hown hK hP 0 rfl rfl 3 (by decide) (hts _ u_1029) (fun _ h9 => h9) rfl dX8_countHoursOnDay_5 ?_
  refine lv_iload_n hx hb dX8_countHoursOnDay_8 rfl (lv_at hl 1 rfl) ?_
  refine lv_iload_n hx hb dX8_countHoursOnDay_9 rfl (lv_at hl 2 rfl) ?_
  refine r_V (own := RX8) (v := (some (.int (f_X1_positionOf v.2.2.2.1 dr dy)))) (st1 := [.int (f_X1_positionOf v.2.2.2.1 dr dy), .ref (va 6)]) (As := [.int dr, .int dy]) (rest := [.ref (va 6)]) (c_X1_positionOf l G (va 6) (va 7) (va 8) (va 9) v.2.2.2.1 dr dy) ⟨hx, hb, hml, hown, hts⟩ g_X8_79 hdv_X1_positionOf hK hST hS hP [6, 7, 8, 9] rfl (k0 := 0) rfl rfl rfl ⟨Nat.le_of_ble_eq_true rfl, Nat.le_of_ble_eq_true rfl⟩ ⟨Nat.le_of_ble_eq_true rfl, Nat.le_of_ble_eq_true rfl⟩ rfl hl.1 rfl (Nat.le_of_ble_eq_true rfl) dX8_countHoursOnDay_10 rfl (fun b_1 => ?_)
  refine r_V (own := RX8) (v := (some (.int (f_X1_effectAt v.2.2.2.1 (f_X1_positionOf v.2.2.2.1 dr dy))))) (st1 := [.int (f_X1_effectAt v.2.2.2.1 (f_X1_positionOf v.2.2.2.1 dr dy))]) (As := [.int (f_X1_positionOf v.2.2.2.1 dr dy)]) (rest := []) (c_X1_effectAt l G (va 6) (va 7) (va 8) (va 9) v.2.2.2.1 (f_X1_positionOf v.2.2.2.1 dr dy)) ⟨hx, hb, hml, hown, hts⟩ g_X8_115 hdv_X1_effectAt hK hST hS hP [6, 7, 8, 9] rfl (k0 := 0) rfl rfl rfl ⟨Nat.le_of_ble_eq_true rfl, Nat.le_of_ble_eq_true rfl⟩ ⟨Nat.le_of_ble_eq_true rfl, Nat.le_of_ble_eq_true rfl⟩ rfl hl.1 rfl (Nat.le_of_ble_eq_true rfl) dX8_countHoursOnDay_13 rfl (fun b_2 => ?_)
  refine lv_topi (fun y_3 ey_3 => ?_)
  have hF : f_X8_countHoursOnDay v dr dy = (if y_3 = (1 : Int32) then (24 : Int32) else (if y_3 = (2 : Int32) then (0 : Int32) else (if (f_X2_containsPhase v.2.2.1 dr (f_X8_phaseFor v dy)) = (0 : Int32) then (0 : Int32) else (f_X2_countHours v.2.2.1 dr)))) := by subst ey_3; exact hF
  refine lv_istore_n (lv' := [(3, .int y_3), (0, .ref (va 0)), (1, .int dr), (2, .int dy)]) hx hb dX8_countHoursOnDay_16 rfl hl (by decide) rfl (fun ls hl => ?_)
  refine lv_iload_n hx hb dX8_countHoursOnDay_17 rfl (lv_at hl 0 rfl) ?_
  refine lv_iconst (v := (1 : Int32)) hx hb dX8_countHoursOnDay_18 (by decide) ?_
  refine lv_icmp_ne (tgt := 25) hx hb dX8_countHoursOnDay_19 (by decide) (fun c_4 => ?_) (fun c_4 => ?_)
  · have hF := hF.trans (if_neg c_4)
    refine lv_iload_n hx hb dX8_countHoursOnDay_25 rfl (lv_at hl 0 rfl) ?_
    refine lv_iconst (v := (2 : Int32)) hx hb dX8_countHoursOnDay_26 (by decide) ?_
    refine lv_icmp_eq (tgt := 46) hx hb dX8_countHoursOnDay_27 (by decide) (fun c_5 => ?_) (fun c_5 => ?_)
    · have hF := hF.trans (if_pos c_5)
      refine lv_iconst (v := (0 : Int32)) hx hb dX8_countHoursOnDay_46 (by decide) ?_
      exact r_ret hx hb hr hlk rfl (by rw [hF]) trivial dX8_countHoursOnDay_47
    · have hF := hF.trans (if_neg c_5)
      refine lv_aload_n hx hb dX8_countHoursOnDay_30 rfl (lv_at hl 1 rfl) ?_
      refine va_get (D := G.1) (ci := 10) (v := .ref (va 1)) (C := RX8) (T := TX8) (N := 6) hx hb hts uws_X8 hown hK hP 0 rfl rfl 2 (by decide) (hts _ u_1027) (fun _ h9 => h9) rfl dX8_countHoursOnDay_31 ?_
      refine lv_iload_n hx hb dX8_countHoursOnDay_34 rfl (lv_at hl 2 rfl) ?_
      refine lv_aload_n hx hb dX8_countHoursOnDay_35 rfl (lv_at hl 1 rfl) ?_
      refine lv_iload_n hx hb dX8_countHoursOnDay_36 rfl (lv_at hl 3 rfl) ?_
      refine r_V (own := RX8) (v := (some (.int (f_X8_phaseFor v dy)))) (st1 := [.int (f_X8_phaseFor v dy), .int dr, .ref (va 1)]) (As := [.int dy]) (rest := [.int dr, .ref (va 1)]) (c_X8_phaseFor l G va v dy) ⟨hx, hb, hml, hown, hts⟩ g_X8_100 hdv_X8_phaseFor hK hST hS hP [0, 1, 2, 3, 4, 5, 6, 7, 8, 9, 10, 11, 12, 13, 14, 15, 16, 17, 18, 19] rfl (k0 := 0) rfl rfl rfl ⟨Nat.le_of_ble_eq_true rfl, Nat.le_of_ble_eq_true rfl⟩ ⟨Nat.le_of_ble_eq_true rfl, Nat.le_of_ble_eq_true rfl⟩ rfl hl.1 rfl (Nat.le_of_ble_eq_true rfl) dX8_countHoursOnDay_37 rfl (fun b_6 => ?_)
      refine r_V (own := RX8) (v := (some (.int (f_X2_containsPhase v.2.2.1 dr (f_X8_phaseFor v dy))))) (st1 := [.int (f_X2_containsPhase v.2.2.1 dr (f_X8_phaseFor v dy))]) (As := [.int dr, .int (f_X8_phaseFor v dy)]) (rest := []) (c_X2_containsPhase l G (va 1) (va 2) (va 3) (va 4) (va 5) v.2.2.1 dr (f_X8_phaseFor v dy)) ⟨hx, hb, hml, hown, hts⟩ g_X8_125 hdv_X2_containsPhase hK hST hS hP [1, 2, 3, 4, 5] rfl (k0 := 0) rfl rfl rfl ⟨Nat.le_of_ble_eq_true rfl, Nat.le_of_ble_eq_true rfl⟩ ⟨Nat.le_of_ble_eq_true rfl, Nat.le_of_ble_eq_true rfl⟩ rfl hl.1 rfl (Nat.le_of_ble_eq_true rfl) dX8_countHoursOnDay_40 rfl (fun b_7 => ?_)
      refine lv_if_ne (tgt := 48) hx hb dX8_countHoursOnDay_43 (by decide) (fun c_8 => ?_) (fun c_8 => ?_)
      · have hF := hF.trans (if_neg c_8)
        refine lv_aload_n hx hb dX8_countHoursOnDay_48 rfl (lv_at hl 1 rfl) ?_
        refine va_get (D := G.1) (ci := 10) (v := .ref (va 1)) (C := RX8) (T := TX8) (N := 6) hx hb hts uws_X8 hown hK hP 0 rfl rfl 2 (by decide) (hts _ u_1027) (fun _ h9 => h9) rfl dX8_countHoursOnDay_49 ?_
        refine lv_iload_n hx hb dX8_countHoursOnDay_52 rfl (lv_at hl 2 rfl) ?_
        refine r_V (own := RX8) (v := (some (.int (f_X2_countHours v.2.2.1 dr)))) (st1 := [.int (f_X2_countHours v.2.2.1 dr)]) (As := [.int dr]) (rest := []) (c_X2_countHours l G (va 1) (va 2) (va 3) (va 4) (va 5) v.2.2.1 dr) ⟨hx, hb, hml, hown, hts⟩ g_X8_147 hdv_X2_countHours hK hST hS hP [1, 2, 3, 4, 5] rfl (k0 := 0) rfl rfl rfl ⟨Nat.le_of_ble_eq_true rfl, Nat.le_of_ble_eq_true rfl⟩ ⟨Nat.le_of_ble_eq_true rfl, Nat.le_of_ble_eq_true rfl⟩ rfl hl.1 rfl (Nat.le_of_ble_eq_true rfl) dX8_countHoursOnDay_53 rfl (fun b_9 => ?_)
        exact r_ret hx hb hr hlk rfl (by rw [hF]) trivial dX8_countHoursOnDay_56
      · have hF := hF.trans (if_pos c_8)
        refine lv_iconst (v := (0 : Int32)) hx hb dX8_countHoursOnDay_46 (by decide) ?_
        exact r_ret hx hb hr hlk rfl (by rw [hF]) trivial dX8_countHoursOnDay_47
  · have hF := hF.trans (if_pos c_4)
    refine lv_bipush (v := (24 : Int32)) hx hb dX8_countHoursOnDay_22 (by decide) ?_
    exact r_ret hx hb hr hlk rfl (by rw [hF]) trivial dX8_countHoursOnDay_24
theorem dX8_countUnlockedHours_0 : decode cX8_countUnlockedHours 0 = .ok (.iconst 0, 1) := by decide +kernel
theorem dX8_countUnlockedHours_1 : decode cX8_countUnlockedHours 1 = .ok (.istore_n 3, 1) := by decide +kernel
theorem dX8_countUnlockedHours_2 : decode cX8_countUnlockedHours 2 = .ok (.iconst 0, 1) := by decide +kernel
theorem dX8_countUnlockedHours_3 : decode cX8_countUnlockedHours 3 = .ok (.istore 4, 2) := by decide +kernel
theorem dX8_countUnlockedHours_5 : decode cX8_countUnlockedHours 5 = .ok (.iload 4, 2) := by decide +kernel
theorem dX8_countUnlockedHours_7 : decode cX8_countUnlockedHours 7 = .ok (.iload_n 2, 1) := by decide +kernel
theorem dX8_countUnlockedHours_8 : decode cX8_countUnlockedHours 8 = .ok (.if_icmp .ge 24, 3) := by decide +kernel
theorem dX8_countUnlockedHours_32 : decode cX8_countUnlockedHours 32 = .ok (.iload_n 3, 1) := by decide +kernel
theorem dX8_countUnlockedHours_33 : decode cX8_countUnlockedHours 33 = .ok (.ireturn, 1) := by decide +kernel
theorem dX8_countUnlockedHours_11 : decode cX8_countUnlockedHours 11 = .ok (.iload_n 3, 1) := by decide +kernel
theorem dX8_countUnlockedHours_12 : decode cX8_countUnlockedHours 12 = .ok (.aload_n 0, 1) := by decide +kernel
theorem dX8_countUnlockedHours_13 : decode cX8_countUnlockedHours 13 = .ok (.iload_n 1, 1) := by decide +kernel
theorem dX8_countUnlockedHours_14 : decode cX8_countUnlockedHours 14 = .ok (.aload_n 0, 1) := by decide +kernel
theorem dX8_countUnlockedHours_15 : decode cX8_countUnlockedHours 15 = .ok (.invokevirtual 72, 3) := by decide +kernel
theorem dX8_countUnlockedHours_18 : decode cX8_countUnlockedHours 18 = .ok (.iload 4, 2) := by decide +kernel
theorem dX8_countUnlockedHours_20 : decode cX8_countUnlockedHours 20 = .ok (.iadd, 1) := by decide +kernel
theorem dX8_countUnlockedHours_21 : decode cX8_countUnlockedHours 21 = .ok (.invokevirtual 144, 3) := by decide +kernel
theorem u_865 : Cond.methodLink RX8 144 yX8_countHoursOnDay ∈ UW := uw 865 (by decide +kernel) rfl
theorem u_867 : Cond.instanceMethod yX8_countHoursOnDay ∈ UW := uw 867 (by decide +kernel) rfl
theorem u_8 : Cond.selects RX8 yX8_countHoursOnDay yX8_countHoursOnDay ∈ UW := uw 8 (by decide +kernel) rfl
theorem u_869 : Cond.code yX8_countHoursOnDay cX8_countHoursOnDay 4 (some .int) ∈ UW := uw 869 (by decide +kernel) rfl
theorem g_X8_144 : GoodIn UW (wsV RX8 144 RX8 yX8_countHoursOnDay (wsU yX8_countHoursOnDay cX8_countHoursOnDay 4 (some .int))) := gV u_865 u_867 u_8 u_22 u_869
theorem hdv_X8_countHoursOnDay : yX8_countHoursOnDay.cls = RX8 ∧ yX8_countHoursOnDay.cls ≠ "java/lang/invoke/MethodHandle" ∧ yX8_countHoursOnDay.cls ≠ "java/lang/invoke/VarHandle" ∧ (parseMethodDescriptor yX8_countHoursOnDay.desc).map (fun d => d.parameters.length) = some 2 := by decide +kernel
theorem dX8_countUnlockedHours_24 : decode cX8_countUnlockedHours 24 = .ok (.iadd, 1) := by decide +kernel
theorem dX8_countUnlockedHours_25 : decode cX8_countUnlockedHours 25 = .ok (.istore_n 3, 1) := by decide +kernel
theorem dX8_countUnlockedHours_26 : decode cX8_countUnlockedHours 26 = .ok (.iinc 4 1, 3) := by decide +kernel
theorem dX8_countUnlockedHours_29 : decode cX8_countUnlockedHours 29 = .ok (.goto (-24), 3) := by decide +kernel
def lp_X8_countUnlockedHours_5 (v : StV) (dr : Int32) (ds : Int32) : Nat → Int32 → Int32 → Int32
  | 0, _, _ => 0
  | n + 1, x4, x3 => (if ds ≤ x4 then x3 else (let y_4 : Int32 := (x3 + (f_X8_countHoursOnDay v dr ((f_X8_today v) + x4))); (lp_X8_countUnlockedHours_5 v dr ds n (x4 + 1) y_4)))
def f_X8_countUnlockedHours (v : StV) (dr : Int32) (ds : Int32) : Int32 := (lp_X8_countUnlockedHours_5 v dr ds (((ds).toInt - ((0 : Int32)).toInt).toNat + 1) (0 : Int32) (0 : Int32))
set_option maxHeartbeats 4000000 in
set_option maxRecDepth 100000 in
theorem c_X8_countUnlockedHours (l : Launch) (G : GG) (va : Nat → Nat) (v : StV) (dr : Int32) (ds : Int32) : rMet l yX8_countUnlockedHours cX8_countUnlockedHours 5 (some .int) 4 G (fl [[((va 0), .inr (10, [.int v.1, .int v.2.1, .ref (va 1), .ref (va 6), .ref (va 10), .ref (va 13)]))], wDo G (va 1) (va 2) (va 3) (va 4) (va 5) v.2.2.1, wEx G (va 6) (va 7) (va 8) (va 9) v.2.2.2.1, wPe G (va 10) (va 11) (va 12) v.2.2.2.2.1, wAu G (va 13) (va 14) (va 15) (va 16) (va 17) (va 18) (va 19) v.2.2.2.2.2]) [.ref (va 0), .int dr, .int ds] (some (.int (f_X8_countUnlockedHours v dr ds))) (True) := by
  refine r_start (by decide +kernel) (Nat.le_of_ble_eq_true rfl) ?_
  intro p e s m below meth c hx hb hr hml hts hown hlk hP hK hST ls hl
  have hS : va_S (fun _ => False) s.heap s.heap [] := va_S.rf
  have hown : s.vm.findClass RX8 = some m.cls := hown
  have hl : lv_has ls 5 [(0, .ref (va 0)), (1, .int dr), (2, .int ds)] := hl
  have hF : f_X8_countUnlockedHours v dr ds = (lp_X8_countUnlockedHours_5 v dr ds (((ds).toInt - ((0 : Int32)).toInt).toNat + 1) (0 : Int32) (0 : Int32)) := rfl
  refine lv_iconst (v := (0 : Int32)) hx hb dX8_countUnlockedHours_0 (by decide) ?_
  refine lv_istore_n (lv' := [(3, .int (0 : Int32)), (0, .ref (va 0)), (1, .int dr), (2, .int ds)]) hx hb dX8_countUnlockedHours_1 rfl hl (by decide) rfl (fun ls hl => ?_)
  refine lv_iconst (v := (0 : Int32)) hx hb dX8_countUnlockedHours_2 (by decide) ?_
  refine lv_istore (lv' := [(4, .int (0 : Int32)), (3, .int (0 : Int32)), (0, .ref (va 0)), (1, .int dr), (2, .int ds)]) hx hb dX8_countUnlockedHours_3 hl (by decide) rfl (fun ls hl => ?_)
  have L5 : ∀ (n : Nat) (x4 : Int32) (x3 : Int32) (ls : Array Slot), lv_has ls 5 [(4, .int x4), (3, .int x3), (0, .ref (va 0)), (1, .int dr), (2, .int ds)] → (upI x4 ds n) → f_X8_countUnlockedHours v dr ds = lp_X8_countUnlockedHours_5 v dr ds n x4 x3 → W p l e (rmd 4 0 0) s m ([.ref (va 0), .int dr, .int ds] : List Value).toArray below meth c s.heap [] 0 0 (MQ below (rQ (some (.int (f_X8_countUnlockedHours v dr ds))) (True)) ([.ref (va 0), .int dr, .int ds] : List Value).toArray s 0 0 (fun _ => False)) (F0 m 5 ls []) := by
    intro n
    induction n with
    | zero => intro x4 x3 ls hl hu; exact absurd hu (upI_0)
    | succ n ih =>
      intro x4 x3 ls hl hu hF
      have hF : f_X8_countUnlockedHours v dr ds = (if ds ≤ x4 then x3 else (let y_4 : Int32 := (x3 + (f_X8_countHoursOnDay v dr ((f_X8_today v) + x4))); (lp_X8_countUnlockedHours_5 v dr ds n (x4 + 1) y_4))) := hF
      refine lv_iload hx hb dX8_countUnlockedHours_5 (lv_at hl 0 rfl) ?_
      refine lv_iload_n hx hb dX8_countUnlockedHours_7 rfl (lv_at hl 4 rfl) ?_
      refine lv_icmp_ge (tgt := 32) hx hb dX8_countUnlockedHours_8 (by decide) (fun c_1 => ?_) (fun c_1 => ?_)
      · have hF := hF.trans (if_pos c_1)
        refine lv_iload_n hx hb dX8_countUnlockedHours_32 rfl (lv_at hl 1 rfl) ?_
        exact r_ret hx hb hr hlk rfl (by rw [hF]) trivial dX8_countUnlockedHours_33
      · have hF := hF.trans (if_neg c_1)
        refine lv_iload_n hx hb dX8_countUnlockedHours_11 rfl (lv_at hl 1 rfl) ?_
        refine lv_aload_n hx hb dX8_countUnlockedHours_12 rfl (lv_at hl 2 rfl) ?_
        refine lv_iload_n hx hb dX8_countUnlockedHours_13 rfl (lv_at hl 3 rfl) ?_
        refine lv_aload_n hx hb dX8_countUnlockedHours_14 rfl (lv_at hl 2 rfl) ?_
        refine r_V (own := RX8) (v := (some (.int (f_X8_today v)))) (st1 := [.int (f_X8_today v), .int dr, .ref (va 0), .int x3]) (As := []) (rest := [.int dr, .ref (va 0), .int x3]) (c_X8_today l G va v) ⟨hx, hb, hml, hown, hts⟩ g_X8_72 hdv_X8_today hK hST hS hP [0, 1, 2, 3, 4, 5, 6, 7, 8, 9, 10, 11, 12, 13, 14, 15, 16, 17, 18, 19] rfl (k0 := 0) rfl rfl rfl ⟨Nat.le_of_ble_eq_true rfl, Nat.le_of_ble_eq_true rfl⟩ ⟨Nat.le_of_ble_eq_true rfl, Nat.le_of_ble_eq_true rfl⟩ rfl hl.1 rfl (Nat.le_of_ble_eq_true rfl) dX8_countUnlockedHours_15 rfl (fun b_2 => ?_)
        refine lv_iload hx hb dX8_countUnlockedHours_18 (lv_at hl 0 rfl) ?_
        refine lv_iadd hx hb dX8_countUnlockedHours_20 ?_
        refine r_V (own := RX8) (v := (some (.int (f_X8_countHoursOnDay v dr ((f_X8_today v) + x4))))) (st1 := [.int (f_X8_countHoursOnDay v dr ((f_X8_today v) + x4)), .int x3]) (As := [.int dr, .int ((f_X8_today v) + x4)]) (rest := [.int x3]) (c_X8_countHoursOnDay l G va v dr ((f_X8_today v) + x4)) ⟨hx, hb, hml, hown, hts⟩ g_X8_144 hdv_X8_countHoursOnDay hK hST hS hP [0, 1, 2, 3, 4, 5, 6, 7, 8, 9, 10, 11, 12, 13, 14, 15, 16, 17, 18, 19] rfl (k0 := 0) rfl rfl rfl ⟨Nat.le_of_ble_eq_true rfl, Nat.le_of_ble_eq_true rfl⟩ ⟨Nat.le_of_ble_eq_true rfl, Nat.le_of_ble_eq_true rfl⟩ rfl hl.1 rfl (Nat.le_of_ble_eq_true rfl) dX8_countUnlockedHours_21 rfl (fun b_3 => ?_)
        refine lv_iadd hx hb dX8_countUnlockedHours_24 ?_
        refine lv_topi (fun y_4 ey_4 => ?_)
        have hF : f_X8_countUnlockedHours v dr ds = (lp_X8_countUnlockedHours_5 v dr ds n (x4 + 1) y_4) := by subst ey_4; exact hF
        refine lv_istore_n (lv' := [(3, .int y_4), (4, .int x4), (0, .ref (va 0)), (1, .int dr), (2, .int ds)]) hx hb dX8_countUnlockedHours_25 rfl hl (by decide) rfl (fun ls hl => ?_)
        refine lv_iinc (v := (x4 + 1)) (lv' := [(4, .int (x4 + 1)), (3, .int y_4), (0, .ref (va 0)), (1, .int dr), (2, .int ds)]) hx hb dX8_countUnlockedHours_26 hl (k := 1) rfl rfl (by decide) rfl (fun ls hl => ?_)
        refine lv_goto (tgt := 5) hx hb dX8_countUnlockedHours_29 (by decide) ?_
        exact ih (x4 + 1) y_4 ls (lv_sub hl [0, 1, 2, 3, 4] rfl) (upI_s (Int32.not_le.mp c_1) hu) hF
  exact L5 (((ds).toInt - ((0 : Int32)).toInt).toNat + 1) (0 : Int32) (0 : Int32) ls (lv_sub hl [0, 1, 2, 3, 4] rfl) (upI_i) hF
theorem dX8_countDoorsOfRing_0 : decode cX8_countDoorsOfRing 0 = .ok (.iconst 0, 1) := by decide +kernel
theorem dX8_countDoorsOfRing_1 : decode cX8_countDoorsOfRing 1 = .ok (.istore_n 2, 1) := by decide +kernel
theorem dX8_countDoorsOfRing_2 : decode cX8_countDoorsOfRing 2 = .ok (.iconst 0, 1) := by decide +kernel
theorem dX8_countDoorsOfRing_3 : decode cX8_countDoorsOfRing 3 = .ok (.istore_n 3, 1) := by decide +kernel
theorem dX8_countDoorsOfRing_4 : decode cX8_countDoorsOfRing 4 = .ok (.iload_n 3, 1) := by decide +kernel
theorem dX8_countDoorsOfRing_5 : decode cX8_countDoorsOfRing 5 = .ok (.aload_n 0, 1) := by decide +kernel
theorem dX8_countDoorsOfRing_6 : decode cX8_countDoorsOfRing 6 = .ok (.getfield 21, 3) := by decide +kernel
theorem dX8_countDoorsOfRing_9 : decode cX8_countDoorsOfRing 9 = .ok (.getfield 56, 3) := by decide +kernel
theorem dX8_countDoorsOfRing_12 : decode cX8_countDoorsOfRing 12 = .ok (.if_icmp .ge 31, 3) := by decide +kernel
theorem dX8_countDoorsOfRing_43 : decode cX8_countDoorsOfRing 43 = .ok (.iload_n 2, 1) := by decide +kernel
theorem dX8_countDoorsOfRing_44 : decode cX8_countDoorsOfRing 44 = .ok (.ireturn, 1) := by decide +kernel
theorem dX8_countDoorsOfRing_15 : decode cX8_countDoorsOfRing 15 = .ok (.aload_n 0, 1) := by decide +kernel
theorem dX8_countDoorsOfRing_16 : decode cX8_countDoorsOfRing 16 = .ok (.getfield 35, 3) := by decide +kernel
theorem dX8_countDoorsOfRing_19 : decode cX8_countDoorsOfRing 19 = .ok (.iload_n 1, 1) := by decide +kernel
theorem dX8_countDoorsOfRing_20 : decode cX8_countDoorsOfRing 20 = .ok (.aload_n 0, 1) := by decide +kernel
theorem dX8_countDoorsOfRing_21 : decode cX8_countDoorsOfRing 21 = .ok (.getfield 21, 3) := by decide +kernel
theorem dX8_countDoorsOfRing_24 : decode cX8_countDoorsOfRing 24 = .ok (.iload_n 3, 1) := by decide +kernel
theorem dX8_countDoorsOfRing_25 : decode cX8_countDoorsOfRing 25 = .ok (.invokevirtual 118, 3) := by decide +kernel
theorem dX8_countDoorsOfRing_28 : decode cX8_countDoorsOfRing 28 = .ok (.invokevirtual 121, 3) := by decide +kernel
theorem dX8_countDoorsOfRing_31 : decode cX8_countDoorsOfRing 31 = .ok (.ifCond .eq 6, 3) := by decide +kernel
theorem dX8_countDoorsOfRing_37 : decode cX8_countDoorsOfRing 37 = .ok (.iinc 3 1, 3) := by decide +kernel
theorem dX8_countDoorsOfRing_40 : decode cX8_countDoorsOfRing 40 = .ok (.goto (-36), 3) := by decide +kernel
theorem dX8_countDoorsOfRing_34 : decode cX8_countDoorsOfRing 34 = .ok (.iinc 2 1, 3) := by decide +kernel
def lp_X8_countDoorsOfRing_4 (v : StV) (ps : Int32) : Nat → Int32 → Int32 → Int32
  | 0, _, _ => 0
  | n + 1, x3, x2 => (if v.2.2.1.1 ≤ x3 then x2 else (if (f_X5_ringContains v.2.2.2.2.1 ps (f_X2_keyFor v.2.2.1 x3)) = (0 : Int32) then (lp_X8_countDoorsOfRing_4 v ps n (x3 + 1) x2) else (lp_X8_countDoorsOfRing_4 v ps n (x3 + 1) (x2 + 1))))
def f_X8_countDoorsOfRing (v : StV) (ps : Int32) : Int32 := (lp_X8_countDoorsOfRing_4 v ps (((v.2.2.1.1).toInt - ((0 : Int32)).toInt).toNat + 1) (0 : Int32) (0 : Int32))
set_option maxHeartbeats 4000000 in
set_option maxRecDepth 100000 in
theorem c_X8_countDoorsOfRing (l : Launch) (G : GG) (va : Nat → Nat) (v : StV) (ps : Int32) : rMet l yX8_countDoorsOfRing cX8_countDoorsOfRing 4 (some .int) 3 G (fl [[((va 0), .inr (10, [.int v.1, .int v.2.1, .ref (va 1), .ref (va 6), .ref (va 10), .ref (va 13)]))], wDo G (va 1) (va 2) (va 3) (va 4) (va 5) v.2.2.1, wEx G (va 6) (va 7) (va 8) (va 9) v.2.2.2.1, wPe G (va 10) (va 11) (va 12) v.2.2.2.2.1, wAu G (va 13) (va 14) (va 15) (va 16) (va 17) (va 18) (va 19) v.2.2.2.2.2]) [.ref (va 0), .int ps] (some (.int (f_X8_countDoorsOfRing v ps))) (True) := by
  refine r_start (by decide +kernel) (Nat.le_of_ble_eq_true rfl) ?_
  intro p e s m below meth c hx hb hr hml hts hown hlk hP hK hST ls hl
  have hS : va_S (fun _ => False) s.heap s.heap [] := va_S.rf
  have hown : s.vm.findClass RX8 = some m.cls := hown
  have hl : lv_has ls 4 [(0, .ref (va 0)), (1, .int ps)] := hl
  have hF : f_X8_countDoorsOfRing v ps = (lp_X8_countDoorsOfRing_4 v ps (((v.2.2.1.1).toInt - ((0 : Int32)).toInt).toNat + 1) (0 : Int32) (0 : Int32)) := rfl
  refine lv_iconst (v := (0 : Int32)) hx hb dX8_countDoorsOfRing_0 (by decide) ?_
  refine lv_istore_n (lv' := [(2, .int (0 : Int32)), (0, .ref (va 0)), (1, .int ps)]) hx hb dX8_countDoorsOfRing_1 rfl hl (by decide) rfl (fun ls hl => ?_)
  refine lv_iconst (v := (0 : Int32)) hx hb dX8_countDoorsOfRing_2 (by decide) ?_
  refine lv_istore_n (lv' := [(3, .int (0 : Int32)), (2, .int (0 : Int32)), (0, .ref (va 0)), (1, .int ps)]) hx hb dX8_countDoorsOfRing_3 rfl hl (by decide) rfl (fun ls hl => ?_)
  have L4 : ∀ (n : Nat) (x3 : Int32) (x2 : Int32) (ls : Array Slot), lv_has ls 4 [(3, .int x3), (2, .int x2), (0, .ref (va 0)), (1, .int ps)] → (upI x3 v.2.2.1.1 n) → f_X8_countDoorsOfRing v ps = lp_X8_countDoorsOfRing_4 v ps n x3 x2 → W p l e (rmd 3 0 0) s m ([.ref (va 0), .int ps] : List Value).toArray below meth c s.heap [] 0 0 (MQ below (rQ (some (.int (f_X8_countDoorsOfRing v ps))) (True)) ([.ref (va 0), .int ps] : List Value).toArray s 0 0 (fun _ => False)) (F0 m 4 ls []) := by
    intro n
    induction n with
    | zero => intro x3 x2 ls hl hu; exact absurd hu (upI_0)
    | succ n ih =>
      intro x3 x2 ls hl hu hF
      have hF : f_X8_countDoorsOfRing v ps = (if v.2.2.1.1 ≤ x3 then x2 else (if (f_X5_ringContains v.2.2.2.2.1 ps (f_X2_keyFor v.2.2.1 x3)) = (0 : Int32) then (lp_X8_countDoorsOfRing_4 v ps n (x3 + 1) x2) else (lp_X8_countDoorsOfRing_4 v ps n (x3 + 1) (x2 + 1)))) := hF
      refine lv_iload_n hx hb dX8_countDoorsOfRing_4 rfl (lv_at hl 0 rfl) ?_
      refine lv_aload_n hx hb dX8_countDoorsOfRing_5 rfl (lv_at hl 2 rfl) ?_
      refine va_get (D := G.1) (ci := 10) (v := .ref (va 1)) (C := RX8) (T := TX8) (N := 6) hx hb hts uws_X8 hown hK hP 0 rfl rfl 2 (by decide) (hts _ u_1027) (fun _ h9 => h9) rfl dX8_countDoorsOfRing_6 ?_
      refine va_get (D := G.1) (ci := 6) (v := .int v.2.2.1.1) (C := RX2) (T := TX2) (N := 5) hx hb hts uws_X2 hown hK hP 1 rfl rfl 0 (by decide) (hts _ u_941) (fun _ h9 => h9) rfl dX8_countDoorsOfRing_9 ?_
      refine lv_icmp_ge (tgt := 43) hx hb dX8_countDoorsOfRing_12 (by decide) (fun c_1 => ?_) (fun c_1 => ?_)
      · have hF := hF.trans (if_pos c_1)
        refine lv_iload_n hx hb dX8_countDoorsOfRing_43 rfl (lv_at hl 1 rfl) ?_
        exact r_ret hx hb hr hlk rfl (by rw [hF]) trivial dX8_countDoorsOfRing_44
      · have hF := hF.trans (if_neg c_1)
        refine lv_aload_n hx hb dX8_countDoorsOfRing_15 rfl (lv_at hl 2 rfl) ?_
        refine va_get (D := G.1) (ci := 10) (v := .ref (va 10)) (C := RX8) (T := TX8) (N := 6) hx hb hts uws_X8 hown hK hP 0 rfl rfl 4 (by decide) (hts _ u_1031) (fun _ h9 => h9) rfl dX8_countDoorsOfRing_16 ?_
        refine lv_iload_n hx hb dX8_countDoorsOfRing_19 rfl (lv_at hl 3 rfl) ?_
        refine lv_aload_n hx hb dX8_countDoorsOfRing_20 rfl (lv_at hl 2 rfl) ?_
        refine va_get (D := G.1) (ci := 10) (v := .ref (va 1)) (C := RX8) (T := TX8) (N := 6) hx hb hts uws_X8 hown hK hP 0 rfl rfl 2 (by decide) (hts _ u_1027) (fun _ h9 => h9) rfl dX8_countDoorsOfRing_21 ?_
        refine lv_iload_n hx hb dX8_countDoorsOfRing_24 rfl (lv_at hl 0 rfl) ?_
        refine r_V (own := RX8) (v := (some (.int (f_X2_keyFor v.2.2.1 x3)))) (st1 := [.int (f_X2_keyFor v.2.2.1 x3), .int ps, .ref (va 10)]) (As := [.int x3]) (rest := [.int ps, .ref (va 10)]) (c_X2_keyFor l G (va 1) (va 2) (va 3) (va 4) (va 5) v.2.2.1 x3) ⟨hx, hb, hml, hown, hts⟩ g_X8_118 hdv_X2_keyFor hK hST hS hP [1, 2, 3, 4, 5] rfl (k0 := 0) rfl rfl rfl ⟨Nat.le_of_ble_eq_true rfl, Nat.le_of_ble_eq_true rfl⟩ ⟨Nat.le_of_ble_eq_true rfl, Nat.le_of_ble_eq_true rfl⟩ rfl hl.1 rfl (Nat.le_of_ble_eq_true rfl) dX8_countDoorsOfRing_25 rfl (fun b_2 => ?_)
        refine r_V (own := RX8) (v := (some (.int (f_X5_ringContains v.2.2.2.2.1 ps (f_X2_keyFor v.2.2.1 x3))))) (st1 := [.int (f_X5_ringContains v.2.2.2.2.1 ps (f_X2_keyFor v.2.2.1 x3))]) (As := [.int ps, .int (f_X2_keyFor v.2.2.1 x3)]) (rest := []) (c_X5_ringContains l G (va 10) (va 11) (va 12) v.2.2.2.2.1 ps (f_X2_keyFor v.2.2.1 x3)) ⟨hx, hb, hml, hown, hts⟩ g_X8_121 hdv_X5_ringContains hK hST hS hP [10, 11, 12] rfl (k0 := 0) rfl rfl rfl ⟨Nat.le_of_ble_eq_true rfl, Nat.le_of_ble_eq_true rfl⟩ ⟨Nat.le_of_ble_eq_true rfl, Nat.le_of_ble_eq_true rfl⟩ rfl hl.1 rfl (Nat.le_of_ble_eq_true rfl) dX8_countDoorsOfRing_28 rfl (fun b_3 => ?_)
        refine lv_if_eq (tgt := 37) hx hb dX8_countDoorsOfRing_31 (by decide) (fun c_4 => ?_) (fun c_4 => ?_)
        · have hF := hF.trans (if_pos c_4)
          refine lv_iinc (v := (x3 + 1)) (lv' := [(3, .int (x3 + 1)), (2, .int x2), (0, .ref (va 0)), (1, .int ps)]) hx hb dX8_countDoorsOfRing_37 hl (k := 0) rfl rfl (by decide) rfl (fun ls hl => ?_)
          refine lv_goto (tgt := 4) hx hb dX8_countDoorsOfRing_40 (by decide) ?_
          exact ih (x3 + 1) x2 ls (lv_sub hl [0, 1, 2, 3] rfl) (upI_s (Int32.not_le.mp c_1) hu) hF
        · have hF := hF.trans (if_neg c_4)
          refine lv_iinc (v := (x2 + 1)) (lv' := [(2, .int (x2 + 1)), (3, .int x3), (0, .ref (va 0)), (1, .int ps)]) hx hb dX8_countDoorsOfRing_34 hl (k := 1) rfl rfl (by decide) rfl (fun ls hl => ?_)
          refine lv_iinc (v := (x3 + 1)) (lv' := [(3, .int (x3 + 1)), (2, .int (x2 + 1)), (0, .ref (va 0)), (1, .int ps)]) hx hb dX8_countDoorsOfRing_37 hl (k := 1) rfl rfl (by decide) rfl (fun ls hl => ?_)
          refine lv_goto (tgt := 4) hx hb dX8_countDoorsOfRing_40 (by decide) ?_
          exact ih (x3 + 1) (x2 + 1) ls (lv_sub hl [0, 1, 2, 3] rfl) (upI_s (Int32.not_le.mp c_1) hu) hF
  exact L4 (((v.2.2.1.1).toInt - ((0 : Int32)).toInt).toNat + 1) (0 : Int32) (0 : Int32) ls (lv_sub hl [0, 1, 2, 3] rfl) (upI_i) hF
theorem dX8_countOpenDoors_0 : decode cX8_countOpenDoors 0 = .ok (.iconst 0, 1) := by decide +kernel
theorem dX8_countOpenDoors_1 : decode cX8_countOpenDoors 1 = .ok (.istore_n 2, 1) := by decide +kernel
theorem dX8_countOpenDoors_2 : decode cX8_countOpenDoors 2 = .ok (.iconst 0, 1) := by decide +kernel
theorem dX8_countOpenDoors_3 : decode cX8_countOpenDoors 3 = .ok (.istore_n 3, 1) := by decide +kernel
theorem dX8_countOpenDoors_4 : decode cX8_countOpenDoors 4 = .ok (.iload_n 3, 1) := by decide +kernel
theorem dX8_countOpenDoors_5 : decode cX8_countOpenDoors 5 = .ok (.aload_n 0, 1) := by decide +kernel
theorem dX8_countOpenDoors_6 : decode cX8_countOpenDoors 6 = .ok (.getfield 21, 3) := by decide +kernel
theorem dX8_countOpenDoors_9 : decode cX8_countOpenDoors 9 = .ok (.getfield 56, 3) := by decide +kernel
theorem dX8_countOpenDoors_12 : decode cX8_countOpenDoors 12 = .ok (.if_icmp .ge 21, 3) := by decide +kernel
theorem dX8_countOpenDoors_33 : decode cX8_countOpenDoors 33 = .ok (.iload_n 2, 1) := by decide +kernel
theorem dX8_countOpenDoors_34 : decode cX8_countOpenDoors 34 = .ok (.ireturn, 1) := by decide +kernel
theorem dX8_countOpenDoors_15 : decode cX8_countOpenDoors 15 = .ok (.aload_n 0, 1) := by decide +kernel
theorem dX8_countOpenDoors_16 : decode cX8_countOpenDoors 16 = .ok (.iload_n 1, 1) := by decide +kernel
theorem dX8_countOpenDoors_17 : decode cX8_countOpenDoors 17 = .ok (.iload_n 3, 1) := by decide +kernel
theorem dX8_countOpenDoors_18 : decode cX8_countOpenDoors 18 = .ok (.invokevirtual 104, 3) := by decide +kernel
theorem dX8_countOpenDoors_21 : decode cX8_countOpenDoors 21 = .ok (.ifCond .ne 6, 3) := by decide +kernel
theorem dX8_countOpenDoors_27 : decode cX8_countOpenDoors 27 = .ok (.iinc 3 1, 3) := by decide +kernel
theorem dX8_countOpenDoors_30 : decode cX8_countOpenDoors 30 = .ok (.goto (-26), 3) := by decide +kernel
theorem dX8_countOpenDoors_24 : decode cX8_countOpenDoors 24 = .ok (.iinc 2 1, 3) := by decide +kernel
def lp_X8_countOpenDoors_4 (v : StV) (ps : Int32) : Nat → Int32 → Int32 → Int32
  | 0, _, _ => 0
  | n + 1, x3, x2 => (if v.2.2.1.1 ≤ x3 then x2 else (if (f_X8_resultFor v ps x3) = (0 : Int32) then (lp_X8_countOpenDoors_4 v ps n (x3 + 1) (x2 + 1)) else (lp_X8_countOpenDoors_4 v ps n (x3 + 1) x2)))
def f_X8_countOpenDoors (v : StV) (ps : Int32) : Int32 := (lp_X8_countOpenDoors_4 v ps (((v.2.2.1.1).toInt - ((0 : Int32)).toInt).toNat + 1) (0 : Int32) (0 : Int32))
set_option maxHeartbeats 4000000 in
set_option maxRecDepth 100000 in
theorem c_X8_countOpenDoors (l : Launch) (G : GG) (va : Nat → Nat) (v : StV) (ps : Int32) : rMet l yX8_countOpenDoors cX8_countOpenDoors 4 (some .int) 4 G (fl [[((va 0), .inr (10, [.int v.1, .int v.2.1, .ref (va 1), .ref (va 6), .ref (va 10), .ref (va 13)]))], wDo G (va 1) (va 2) (va 3) (va 4) (va 5) v.2.2.1, wEx G (va 6) (va 7) (va 8) (va 9) v.2.2.2.1, wPe G (va 10) (va 11) (va 12) v.2.2.2.2.1, wAu G (va 13) (va 14) (va 15) (va 16) (va 17) (va 18) (va 19) v.2.2.2.2.2]) [.ref (va 0), .int ps] (some (.int (f_X8_countOpenDoors v ps))) (True) := by
  refine r_start (by decide +kernel) (Nat.le_of_ble_eq_true rfl) ?_
  intro p e s m below meth c hx hb hr hml hts hown hlk hP hK hST ls hl
  have hS : va_S (fun _ => False) s.heap s.heap [] := va_S.rf
  have hown : s.vm.findClass RX8 = some m.cls := hown
  have hl : lv_has ls 4 [(0, .ref (va 0)), (1, .int ps)] := hl
  have hF : f_X8_countOpenDoors v ps = (lp_X8_countOpenDoors_4 v ps (((v.2.2.1.1).toInt - ((0 : Int32)).toInt).toNat + 1) (0 : Int32) (0 : Int32)) := rfl
  refine lv_iconst (v := (0 : Int32)) hx hb dX8_countOpenDoors_0 (by decide) ?_
  refine lv_istore_n (lv' := [(2, .int (0 : Int32)), (0, .ref (va 0)), (1, .int ps)]) hx hb dX8_countOpenDoors_1 rfl hl (by decide) rfl (fun ls hl => ?_)
  refine lv_iconst (v := (0 : Int32)) hx hb dX8_countOpenDoors_2 (by decide) ?_
  refine lv_istore_n (lv' := [(3, .int (0 : Int32)), (2, .int (0 : Int32)), (0, .ref (va 0)), (1, .int ps)]) hx hb dX8_countOpenDoors_3 rfl hl (by decide) rfl (fun ls hl => ?_)
  have L4 : ∀ (n : Nat) (x3 : Int32) (x2 : Int32) (ls : Array Slot), lv_has ls 4 [(3, .int x3), (2, .int x2), (0, .ref (va 0)), (1, .int ps)] → (upI x3 v.2.2.1.1 n) → f_X8_countOpenDoors v ps = lp_X8_countOpenDoors_4 v ps n x3 x2 → W p l e (rmd 4 0 0) s m ([.ref (va 0), .int ps] : List Value).toArray below meth c s.heap [] 0 0 (MQ below (rQ (some (.int (f_X8_countOpenDoors v ps))) (True)) ([.ref (va 0), .int ps] : List Value).toArray s 0 0 (fun _ => False)) (F0 m 4 ls []) := by
    intro n
    induction n with
    | zero => intro x3 x2 ls hl hu; exact absurd hu (upI_0)
    | succ n ih =>
      intro x3 x2 ls hl hu hF
      have hF : f_X8_countOpenDoors v ps = (if v.2.2.1.1 ≤ x3 then x2 else (if (f_X8_resultFor v ps x3) = (0 : Int32) then (lp_X8_countOpenDoors_4 v ps n (x3 + 1) (x2 + 1)) else (lp_X8_countOpenDoors_4 v ps n (x3 + 1) x2))) := hF
      refine lv_iload_n hx hb dX8_countOpenDoors_4 rfl (lv_at hl 0 rfl) ?_
      refine lv_aload_n hx hb dX8_countOpenDoors_5 rfl (lv_at hl 2 rfl) ?_
      refine va_get (D := G.1) (ci := 10) (v := .ref (va 1)) (C := RX8) (T := TX8) (N := 6) hx hb hts uws_X8 hown hK hP 0 rfl rfl 2 (by decide) (hts _ u_1027) (fun _ h9 => h9) rfl dX8_countOpenDoors_6 ?_
      refine va_get (D := G.1) (ci := 6) (v := .int v.2.2.1.1) (C := RX2) (T := TX2) (N := 5) hx hb hts uws_X2 hown hK hP 1 rfl rfl 0 (by decide) (hts _ u_941) (fun _ h9 => h9) rfl dX8_countOpenDoors_9 ?_
      refine lv_icmp_ge (tgt := 33) hx hb dX8_countOpenDoors_12 (by decide) (fun c_1 => ?_) (fun c_1 => ?_)
      · have hF := hF.trans (if_pos c_1)
        refine lv_iload_n hx hb dX8_countOpenDoors_33 rfl (lv_at hl 1 rfl) ?_
        exact r_ret hx hb hr hlk rfl (by rw [hF]) trivial dX8_countOpenDoors_34
      · have hF := hF.trans (if_neg c_1)
        refine lv_aload_n hx hb dX8_countOpenDoors_15 rfl (lv_at hl 2 rfl) ?_
        refine lv_iload_n hx hb dX8_countOpenDoors_16 rfl (lv_at hl 3 rfl) ?_
        refine lv_iload_n hx hb dX8_countOpenDoors_17 rfl (lv_at hl 0 rfl) ?_
        refine r_V (own := RX8) (v := (some (.int (f_X8_resultFor v ps x3)))) (st1 := [.int (f_X8_resultFor v ps x3)]) (As := [.int ps, .int x3]) (rest := []) (c_X8_resultFor l G va v ps x3) ⟨hx, hb, hml, hown, hts⟩ g_X8_104 hdv_X8_resultFor hK hST hS hP [0, 1, 2, 3, 4, 5, 6, 7, 8, 9, 10, 11, 12, 13, 14, 15, 16, 17, 18, 19] rfl (k0 := 0) rfl rfl rfl ⟨Nat.le_of_ble_eq_true rfl, Nat.le_of_ble_eq_true rfl⟩ ⟨Nat.le_of_ble_eq_true rfl, Nat.le_of_ble_eq_true rfl⟩ rfl hl.1 rfl (Nat.le_of_ble_eq_true rfl) dX8_countOpenDoors_18 rfl (fun b_2 => ?_)
        refine lv_if_ne (tgt := 27) hx hb dX8_countOpenDoors_21 (by decide) (fun c_3 => ?_) (fun c_3 => ?_)
        · have hF := hF.trans (if_neg c_3)
          refine lv_iinc (v := (x3 + 1)) (lv' := [(3, .int (x3 + 1)), (2, .int x2), (0, .ref (va 0)), (1, .int ps)]) hx hb dX8_countOpenDoors_27 hl (k := 0) rfl rfl (by decide) rfl (fun ls hl => ?_)
          refine lv_goto (tgt := 4) hx hb dX8_countOpenDoors_30 (by decide) ?_
          exact ih (x3 + 1) x2 ls (lv_sub hl [0, 1, 2, 3] rfl) (upI_s (Int32.not_le.mp c_1) hu) hF
        · have hF := hF.trans (if_pos c_3)
          refine lv_iinc (v := (x2 + 1)) (lv' := [(2, .int (x2 + 1)), (3, .int x3), (0, .ref (va 0)), (1, .int ps)]) hx hb dX8_countOpenDoors_24 hl (k := 1) rfl rfl (by decide) rfl (fun ls hl => ?_)
          refine lv_iinc (v := (x3 + 1)) (lv' := [(3, .int (x3 + 1)), (2, .int (x2 + 1)), (0, .ref (va 0)), (1, .int ps)]) hx hb dX8_countOpenDoors_27 hl (k := 1) rfl rfl (by decide) rfl (fun ls hl => ?_)
          refine lv_goto (tgt := 4) hx hb dX8_countOpenDoors_30 (by decide) ?_
          exact ih (x3 + 1) (x2 + 1) ls (lv_sub hl [0, 1, 2, 3] rfl) (upI_s (Int32.not_le.mp c_1) hu) hF
  exact L4 (((v.2.2.1.1).toInt - ((0 : Int32)).toInt).toNat + 1) (0 : Int32) (0 : Int32) ls (lv_sub hl [0, 1, 2, 3] rfl) (upI_i) hF
theorem dX8_copyFrom_0 : decode cX8_copyFrom 0 = .ok (.aload_n 1, 1) := by decide +kernel
theorem dX8_copyFrom_1 : decode cX8_copyFrom 1 = .ok (.ifnonnull 4, 3) := by decide +kernel
theorem dX8_copyFrom_5 : decode cX8_copyFrom 5 = .ok (.aload_n 0, 1) := by decide +kernel
theorem dX8_copyFrom_6 : decode cX8_copyFrom 6 = .ok (.aload_n 1, 1) := by decide +kernel
theorem dX8_copyFrom_7 : decode cX8_copyFrom 7 = .ok (.getfield 9, 3) := by decide +kernel
theorem dX8_copyFrom_10 : decode cX8_copyFrom 10 = .ok (.putfield 9, 3) := by decide +kernel
theorem dX8_copyFrom_13 : decode cX8_copyFrom 13 = .ok (.aload_n 0, 1) := by decide +kernel
theorem dX8_copyFrom_14 : decode cX8_copyFrom 14 = .ok (.aload_n 1, 1) := by decide +kernel
theorem dX8_copyFrom_15 : decode cX8_copyFrom 15 = .ok (.getfield 15, 3) := by decide +kernel
theorem dX8_copyFrom_18 : decode cX8_copyFrom 18 = .ok (.putfield 15, 3) := by decide +kernel
theorem dX8_copyFrom_21 : decode cX8_copyFrom 21 = .ok (.aload_n 0, 1) := by decide +kernel
theorem dX8_copyFrom_22 : decode cX8_copyFrom 22 = .ok (.getfield 21, 3) := by decide +kernel
theorem dX8_copyFrom_25 : decode cX8_copyFrom 25 = .ok (.aload_n 1, 1) := by decide +kernel
theorem dX8_copyFrom_26 : decode cX8_copyFrom 26 = .ok (.getfield 21, 3) := by decide +kernel
theorem dX8_copyFrom_29 : decode cX8_copyFrom 29 = .ok (.invokevirtual 150, 3) := by decide +kernel
theorem u_553 : Cond.methodLink RX8 150 yX2_copyFrom ∈ UW := uw 553 (by decide +kernel) rfl
theorem u_554 : Cond.instanceMethod yX2_copyFrom ∈ UW := uw 554 (by decide +kernel) rfl
theorem u_555 : Cond.selects RX2 yX2_copyFrom yX2_copyFrom ∈ UW := uw 555 (by decide +kernel) rfl
theorem u_556 : Cond.code yX2_copyFrom cX2_copyFrom 2 none ∈ UW := uw 556 (by decide +kernel) rfl
theorem g_X8_150 : GoodIn UW (wsV RX8 150 RX2 yX2_copyFrom (wsU yX2_copyFrom cX2_copyFrom 2 none)) := gV u_553 u_554 u_555 u_23 u_556
theorem hdv_X2_copyFrom : yX2_copyFrom.cls = RX2 ∧ yX2_copyFrom.cls ≠ "java/lang/invoke/MethodHandle" ∧ yX2_copyFrom.cls ≠ "java/lang/invoke/VarHandle" ∧ (parseMethodDescriptor yX2_copyFrom.desc).map (fun d => d.parameters.length) = some 1 := by decide +kernel
theorem dX8_copyFrom_32 : decode cX8_copyFrom 32 = .ok (.aload_n 0, 1) := by decide +kernel
theorem dX8_copyFrom_33 : decode cX8_copyFrom 33 = .ok (.getfield 28, 3) := by decide +kernel
theorem dX8_copyFrom_36 : decode cX8_copyFrom 36 = .ok (.aload_n 1, 1) := by decide +kernel
theorem dX8_copyFrom_37 : decode cX8_copyFrom 37 = .ok (.getfield 28, 3) := by decide +kernel
theorem dX8_copyFrom_40 : decode cX8_copyFrom 40 = .ok (.invokevirtual 154, 3) := by decide +kernel
theorem u_560 : Cond.methodLink RX8 154 yX1_copyFrom ∈ UW := uw 560 (by decide +kernel) rfl
theorem u_561 : Cond.instanceMethod yX1_copyFrom ∈ UW := uw 561 (by decide +kernel) rfl
theorem u_562 : Cond.selects RX1 yX1_copyFrom yX1_copyFrom ∈ UW := uw 562 (by decide +kernel) rfl
theorem u_563 : Cond.code yX1_copyFrom cX1_copyFrom 2 none ∈ UW := uw 563 (by decide +kernel) rfl
theorem g_X8_154 : GoodIn UW (wsV RX8 154 RX1 yX1_copyFrom (wsU yX1_copyFrom cX1_copyFrom 2 none)) := gV u_560 u_561 u_562 u_24 u_563
theorem hdv_X1_copyFrom : yX1_copyFrom.cls = RX1 ∧ yX1_copyFrom.cls ≠ "java/lang/invoke/MethodHandle" ∧ yX1_copyFrom.cls ≠ "java/lang/invoke/VarHandle" ∧ (parseMethodDescriptor yX1_copyFrom.desc).map (fun d => d.parameters.length) = some 1 := by decide +kernel
theorem dX8_copyFrom_43 : decode cX8_copyFrom 43 = .ok (.aload_n 0, 1) := by decide +kernel
theorem dX8_copyFrom_44 : decode cX8_copyFrom 44 = .ok (.getfield 35, 3) := by decide +kernel
theorem dX8_copyFrom_47 : decode cX8_copyFrom 47 = .ok (.aload_n 1, 1) := by decide +kernel
theorem dX8_copyFrom_48 : decode cX8_copyFrom 48 = .ok (.getfield 35, 3) := by decide +kernel
theorem dX8_copyFrom_51 : decode cX8_copyFrom 51 = .ok (.invokevirtual 157, 3) := by decide +kernel
theorem u_565 : Cond.methodLink RX8 157 yX5_copyFrom ∈ UW := uw 565 (by decide +kernel) rfl
theorem u_566 : Cond.instanceMethod yX5_copyFrom ∈ UW := uw 566 (by decide +kernel) rfl
theorem u_567 : Cond.selects RX5 yX5_copyFrom yX5_copyFrom ∈ UW := uw 567 (by decide +kernel) rfl
theorem u_568 : Cond.code yX5_copyFrom cX5_copyFrom 2 none ∈ UW := uw 568 (by decide +kernel) rfl
theorem g_X8_157 : GoodIn UW (wsV RX8 157 RX5 yX5_copyFrom (wsU yX5_copyFrom cX5_copyFrom 2 none)) := gV u_565 u_566 u_567 u_25 u_568
theorem hdv_X5_copyFrom : yX5_copyFrom.cls = RX5 ∧ yX5_copyFrom.cls ≠ "java/lang/invoke/MethodHandle" ∧ yX5_copyFrom.cls ≠ "java/lang/invoke/VarHandle" ∧ (parseMethodDescriptor yX5_copyFrom.desc).map (fun d => d.parameters.length) = some 1 := by decide +kernel
theorem dX8_copyFrom_54 : decode cX8_copyFrom 54 = .ok (.aload_n 0, 1) := by decide +kernel
theorem dX8_copyFrom_55 : decode cX8_copyFrom 55 = .ok (.getfield 42, 3) := by decide +kernel
theorem dX8_copyFrom_58 : decode cX8_copyFrom 58 = .ok (.aload_n 1, 1) := by decide +kernel
theorem dX8_copyFrom_59 : decode cX8_copyFrom 59 = .ok (.getfield 42, 3) := by decide +kernel
theorem dX8_copyFrom_62 : decode cX8_copyFrom 62 = .ok (.invokevirtual 160, 3) := by decide +kernel
theorem u_570 : Cond.methodLink RX8 160 yX0_copyFrom ∈ UW := uw 570 (by decide +kernel) rfl
theorem u_571 : Cond.instanceMethod yX0_copyFrom ∈ UW := uw 571 (by decide +kernel) rfl
theorem u_572 : Cond.selects RX0 yX0_copyFrom yX0_copyFrom ∈ UW := uw 572 (by decide +kernel) rfl
theorem u_573 : Cond.code yX0_copyFrom cX0_copyFrom 2 none ∈ UW := uw 573 (by decide +kernel) rfl
theorem g_X8_160 : GoodIn UW (wsV RX8 160 RX0 yX0_copyFrom (wsU yX0_copyFrom cX0_copyFrom 2 none)) := gV u_570 u_571 u_572 u_26 u_573
theorem hdv_X0_copyFrom : yX0_copyFrom.cls = RX0 ∧ yX0_copyFrom.cls ≠ "java/lang/invoke/MethodHandle" ∧ yX0_copyFrom.cls ≠ "java/lang/invoke/VarHandle" ∧ (parseMethodDescriptor yX0_copyFrom.desc).map (fun d => d.parameters.length) = some 1 := by decide +kernel
theorem dX8_copyFrom_65 : decode cX8_copyFrom 65 = .ok (.return_, 1) := by decide +kernel
def f_X8_copyFrom0 (v : StV) (o : StV) : StV := (let u_2 : DoV := (f_X2_copyFrom v.2.2.1 o.2.2.1); (let u_4 : ExV := (f_X1_copyFrom v.2.2.2.1 o.2.2.2.1); (let u_6 : PeV := (f_X5_copyFrom v.2.2.2.2.1 o.2.2.2.2.1); (let u_8 : AuV := (f_X0_copyFrom v.2.2.2.2.2 o.2.2.2.2.2); (o.1, o.2.1, u_2, u_4, u_6, u_8)))))
set_option maxHeartbeats 4000000 in
set_option maxRecDepth 100000 in
theorem c_X8_copyFrom0 (l : Launch) (G : GG) (va : Nat → Nat) (oa : Nat → Nat) (sz : Nat) (v : StV) (o : StV) : wMet l yX8_copyFrom cX8_copyFrom 2 none 3 0 0 G (fl [[((va 0), .inr (10, [.int v.1, .int v.2.1, .ref (va 1), .ref (va 6), .ref (va 10), .ref (va 13)]))], wDo G (va 1) (va 2) (va 3) (va 4) (va 5) v.2.2.1, wEx G (va 6) (va 7) (va 8) (va 9) v.2.2.2.1, wPe G (va 10) (va 11) (va 12) v.2.2.2.2.1, wAu G (va 13) (va 14) (va 15) (va 16) (va 17) (va 18) (va 19) v.2.2.2.2.2, [((oa 0), .inr (10, [.int o.1, .int o.2.1, .ref (oa 1), .ref (oa 6), .ref (oa 10), .ref (oa 13)]))], wDo G (oa 1) (oa 2) (oa 3) (oa 4) (oa 5) o.2.2.1, wEx G (oa 6) (oa 7) (oa 8) (oa 9) o.2.2.2.1, wPe G (oa 10) (oa 11) (oa 12) o.2.2.2.2.1, wAu G (oa 13) (oa 14) (oa 15) (oa 16) (oa 17) (oa 18) (oa 19) o.2.2.2.2.2]) [.ref (va 0), .ref (oa 0)] sz (fun u : StV => none) (fun u : StV => u = f_X8_copyFrom0 v o) (fun u : StV => fl [[((va 0), .inr (10, [.int u.1, .int u.2.1, .ref (va 1), .ref (va 6), .ref (va 10), .ref (va 13)]))], wDo G (va 1) (va 2) (va 3) (va 4) (va 5) u.2.2.1, wEx G (va 6) (va 7) (va 8) (va 9) u.2.2.2.1, wPe G (va 10) (va 11) (va 12) u.2.2.2.2.1, wAu G (va 13) (va 14) (va 15) (va 16) (va 17) (va 18) (va 19) u.2.2.2.2.2, [((oa 0), .inr (10, [.int o.1, .int o.2.1, .ref (oa 1), .ref (oa 6), .ref (oa 10), .ref (oa 13)]))], wDo G (oa 1) (oa 2) (oa 3) (oa 4) (oa 5) o.2.2.1, wEx G (oa 6) (oa 7) (oa 8) (oa 9) o.2.2.2.1, wPe G (oa 10) (oa 11) (oa 12) o.2.2.2.2.1, wAu G (oa 13) (oa 14) (oa 15) (oa 16) (oa 17) (oa 18) (oa 19) o.2.2.2.2.2]) := by
  refine w_start (by decide +kernel) (Nat.le_of_ble_eq_true rfl) ?_
  intro p e s m below meth c A hx hb hr hml hts hown hlk hin hP hD hA hK hST ls hl
  have hS : va_S A s.heap s.heap [] := va_S.rf
  have hown : s.vm.findClass RX8 = some m.cls := hown
  have hl : lv_has ls 2 [(0, .ref (va 0)), (1, .ref (oa 0))] := hl
  have hF : f_X8_copyFrom0 v o = (let u_2 : DoV := (f_X2_copyFrom v.2.2.1 o.2.2.1); (let u_4 : ExV := (f_X1_copyFrom v.2.2.2.1 o.2.2.2.1); (let u_6 : PeV := (f_X5_copyFrom v.2.2.2.2.1 o.2.2.2.2.1); (let u_8 : AuV := (f_X0_copyFrom v.2.2.2.2.2 o.2.2.2.2.2); (o.1, o.2.1, u_2, u_4, u_6, u_8))))) := rfl
  refine lv_aload_n hx hb dX8_copyFrom_0 rfl (lv_at hl 1 rfl) ?_
  refine lv_ifnonnull (tgt := 5) hx hb dX8_copyFrom_1 (by decide) ?_
  refine lv_aload_n hx hb dX8_copyFrom_5 rfl (lv_at hl 0 rfl) ?_
  refine lv_aload_n hx hb dX8_copyFrom_6 rfl (lv_at hl 1 rfl) ?_
  refine va_get (D := G.1) (ci := 10) (v := .int o.1) (C := RX8) (T := TX8) (N := 6) hx hb hts uws_X8 hown hK hP 20 rfl rfl 0 (by decide) (hts _ u_1024) (fun _ h9 => h9) rfl dX8_copyFrom_7 ?_
  refine va_put (D := G.1) (ci := 10) (v := .int o.1) (ty := .int) (C := RX8) (T := TX8) (N := 6) hx hb hts uws_X8 tyX8 tyX8_ok nmX8 hown hK hP hD hS 0 rfl rfl 0 (by decide) (hts _ u_1024) (fun _ h9 => h9) rfl (by decide +kernel) rfl rfl (Nat.le_of_ble_eq_true rfl) dX8_copyFrom_10 (fun H locs hP hD hS => ?_)
  have hP : va_P G.1 vwCl (fl [[((va 0), .inr (10, [.int o.1, .int v.2.1, .ref (va 1), .ref (va 6), .ref (va 10), .ref (va 13)]))], wDo G (va 1) (va 2) (va 3) (va 4) (va 5) v.2.2.1, wEx G (va 6) (va 7) (va 8) (va 9) v.2.2.2.1, wPe G (va 10) (va 11) (va 12) v.2.2.2.2.1, wAu G (va 13) (va 14) (va 15) (va 16) (va 17) (va 18) (va 19) v.2.2.2.2.2, [((oa 0), .inr (10, [.int o.1, .int o.2.1, .ref (oa 1), .ref (oa 6), .ref (oa 10), .ref (oa 13)]))], wDo G (oa 1) (oa 2) (oa 3) (oa 4) (oa 5) o.2.2.1, wEx G (oa 6) (oa 7) (oa 8) (oa 9) o.2.2.2.1, wPe G (oa 10) (oa 11) (oa 12) o.2.2.2.2.1, wAu G (oa 13) (oa 14) (oa 15) (oa 16) (oa 17) (oa 18) (oa 19) o.2.2.2.2.2]) H := hP
  have hD : va_D A (fl [[((va 0), .inr (10, [.int o.1, .int v.2.1, .ref (va 1), .ref (va 6), .ref (va 10), .ref (va 13)]))], wDo G (va 1) (va 2) (va 3) (va 4) (va 5) v.2.2.1, wEx G (va 6) (va 7) (va 8) (va 9) v.2.2.2.1, wPe G (va 10) (va 11) (va 12) v.2.2.2.2.1, wAu G (va 13) (va 14) (va 15) (va 16) (va 17) (va 18) (va 19) v.2.2.2.2.2, [((oa 0), .inr (10, [.int o.1, .int o.2.1, .ref (oa 1), .ref (oa 6), .ref (oa 10), .ref (oa 13)]))], wDo G (oa 1) (oa 2) (oa 3) (oa 4) (oa 5) o.2.2.1, wEx G (oa 6) (oa 7) (oa 8) (oa 9) o.2.2.2.1, wPe G (oa 10) (oa 11) (oa 12) o.2.2.2.2.1, wAu G (oa 13) (oa 14) (oa 15) (oa 16) (oa 17) (oa 18) (oa 19) o.2.2.2.2.2]) := hD
  refine lv_aload_n hx hb dX8_copyFrom_13 rfl (lv_at hl 0 rfl) ?_
  refine lv_aload_n hx hb dX8_copyFrom_14 rfl (lv_at hl 1 rfl) ?_
  refine va_get (D := G.1) (ci := 10) (v := .int o.2.1) (C := RX8) (T := TX8) (N := 6) hx hb hts uws_X8 hown hK hP 20 rfl rfl 1 (by decide) (hts _ u_1026) (fun _ h9 => h9) rfl dX8_copyFrom_15 ?_
  refine va_put (D := G.1) (ci := 10) (v := .int o.2.1) (ty := .int) (C := RX8) (T := TX8) (N := 6) hx hb hts uws_X8 tyX8 tyX8_ok nmX8 hown hK hP hD hS 0 rfl rfl 1 (by decide) (hts _ u_1026) (fun _ h9 => h9) rfl (by decide +kernel) rfl rfl (Nat.le_of_ble_eq_true rfl) dX8_copyFrom_18 (fun H locs hP hD hS => ?_)
  have hP : va_P G.1 vwCl (fl [[((va 0), .inr (10, [.int o.1, .int o.2.1, .ref (va 1), .ref (va 6), .ref (va 10), .ref (va 13)]))], wDo G (va 1) (va 2) (va 3) (va 4) (va 5) v.2.2.1, wEx G (va 6) (va 7) (va 8) (va 9) v.2.2.2.1, wPe G (va 10) (va 11) (va 12) v.2.2.2.2.1, wAu G (va 13) (va 14) (va 15) (va 16) (va 17) (va 18) (va 19) v.2.2.2.2.2, [((oa 0), .inr (10, [.int o.1, .int o.2.1, .ref (oa 1), .ref (oa 6), .ref (oa 10), .ref (oa 13)]))], wDo G (oa 1) (oa 2) (oa 3) (oa 4) (oa 5) o.2.2.1, wEx G (oa 6) (oa 7) (oa 8) (oa 9) o.2.2.2.1, wPe G (oa 10) (oa 11) (oa 12) o.2.2.2.2.1, wAu G (oa 13) (oa 14) (oa 15) (oa 16) (oa 17) (oa 18) (oa 19) o.2.2.2.2.2]) H := hP
  have hD : va_D A (fl [[((va 0), .inr (10, [.int o.1, .int o.2.1, .ref (va 1), .ref (va 6), .ref (va 10), .ref (va 13)]))], wDo G (va 1) (va 2) (va 3) (va 4) (va 5) v.2.2.1, wEx G (va 6) (va 7) (va 8) (va 9) v.2.2.2.1, wPe G (va 10) (va 11) (va 12) v.2.2.2.2.1, wAu G (va 13) (va 14) (va 15) (va 16) (va 17) (va 18) (va 19) v.2.2.2.2.2, [((oa 0), .inr (10, [.int o.1, .int o.2.1, .ref (oa 1), .ref (oa 6), .ref (oa 10), .ref (oa 13)]))], wDo G (oa 1) (oa 2) (oa 3) (oa 4) (oa 5) o.2.2.1, wEx G (oa 6) (oa 7) (oa 8) (oa 9) o.2.2.2.1, wPe G (oa 10) (oa 11) (oa 12) o.2.2.2.2.1, wAu G (oa 13) (oa 14) (oa 15) (oa 16) (oa 17) (oa 18) (oa 19) o.2.2.2.2.2]) := hD
  refine lv_aload_n hx hb dX8_copyFrom_21 rfl (lv_at hl 0 rfl) ?_
  refine va_get (D := G.1) (ci := 10) (v := .ref (va 1)) (C := RX8) (T := TX8) (N := 6) hx hb hts uws_X8 hown hK hP 0 rfl rfl 2 (by decide) (hts _ u_1027) (fun _ h9 => h9) rfl dX8_copyFrom_22 ?_
  refine lv_aload_n hx hb dX8_copyFrom_25 rfl (lv_at hl 1 rfl) ?_
  refine va_get (D := G.1) (ci := 10) (v := .ref (oa 1)) (C := RX8) (T := TX8) (N := 6) hx hb hts uws_X8 hown hK hP 20 rfl rfl 2 (by decide) (hts _ u_1027) (fun _ h9 => h9) rfl dX8_copyFrom_26 ?_
  refine w_V (own := RX8) (cs := [wDo G (va 1) (va 2) (va 3) (va 4) (va 5) v.2.2.1, wDo G (oa 1) (oa 2) (oa 3) (oa 4) (oa 5) o.2.2.1]) (rs := [[((va 0), .inr (10, [.int o.1, .int o.2.1, .ref (va 1), .ref (va 6), .ref (va 10), .ref (va 13)]))], wEx G (va 6) (va 7) (va 8) (va 9) v.2.2.2.1, wPe G (va 10) (va 11) (va 12) v.2.2.2.2.1, wAu G (va 13) (va 14) (va 15) (va 16) (va 17) (va 18) (va 19) v.2.2.2.2.2, [((oa 0), .inr (10, [.int o.1, .int o.2.1, .ref (oa 1), .ref (oa 6), .ref (oa 10), .ref (oa 13)]))], wEx G (oa 6) (oa 7) (oa 8) (oa 9) o.2.2.2.1, wPe G (oa 10) (oa 11) (oa 12) o.2.2.2.2.1, wAu G (oa 13) (oa 14) (oa 15) (oa 16) (oa 17) (oa 18) (oa 19) o.2.2.2.2.2]) (As := [.ref (oa 1)]) (rest := []) (c_X2_copyFrom l G (va 1) (va 2) (va 3) (va 4) (va 5) (oa 1) (oa 2) (oa 3) (oa 4) (oa 5) H.size v.2.2.1 o.2.2.1) ⟨hx, hb, hml, hown, hts⟩ g_X8_150 hdv_X2_copyFrom hK hST hS hP hD hA [1, 6] [0, 2, 3, 4, 5, 7, 8, 9] rfl rfl rfl (k0 := 0) rfl rfl rfl ⟨Nat.le_of_ble_eq_true rfl, Nat.le_of_ble_eq_true rfl⟩ ⟨Nat.le_of_ble_eq_true rfl, Nat.le_of_ble_eq_true rfl⟩ rfl hl.1 rfl (Nat.le_of_ble_eq_true rfl) dX8_copyFrom_29 (fun u_2 H locs huu hP hD hS => ?_)
  have eu_2 := huu
  have hP : va_P G.1 vwCl (fl [wDo G (va 1) (va 2) (va 3) (va 4) (va 5) u_2, wDo G (oa 1) (oa 2) (oa 3) (oa 4) (oa 5) o.2.2.1, [((va 0), .inr (10, [.int o.1, .int o.2.1, .ref (va 1), .ref (va 6), .ref (va 10), .ref (va 13)]))], wEx G (va 6) (va 7) (va 8) (va 9) v.2.2.2.1, wPe G (va 10) (va 11) (va 12) v.2.2.2.2.1, wAu G (va 13) (va 14) (va 15) (va 16) (va 17) (va 18) (va 19) v.2.2.2.2.2, [((oa 0), .inr (10, [.int o.1, .int o.2.1, .ref (oa 1), .ref (oa 6), .ref (oa 10), .ref (oa 13)]))], wEx G (oa 6) (oa 7) (oa 8) (oa 9) o.2.2.2.1, wPe G (oa 10) (oa 11) (oa 12) o.2.2.2.2.1, wAu G (oa 13) (oa 14) (oa 15) (oa 16) (oa 17) (oa 18) (oa 19) o.2.2.2.2.2]) H := hP
  have hD : va_D A (fl [wDo G (va 1) (va 2) (va 3) (va 4) (va 5) u_2, wDo G (oa 1) (oa 2) (oa 3) (oa 4) (oa 5) o.2.2.1, [((va 0), .inr (10, [.int o.1, .int o.2.1, .ref (va 1), .ref (va 6), .ref (va 10), .ref (va 13)]))], wEx G (va 6) (va 7) (va 8) (va 9) v.2.2.2.1, wPe G (va 10) (va 11) (va 12) v.2.2.2.2.1, wAu G (va 13) (va 14) (va 15) (va 16) (va 17) (va 18) (va 19) v.2.2.2.2.2, [((oa 0), .inr (10, [.int o.1, .int o.2.1, .ref (oa 1), .ref (oa 6), .ref (oa 10), .ref (oa 13)]))], wEx G (oa 6) (oa 7) (oa 8) (oa 9) o.2.2.2.1, wPe G (oa 10) (oa 11) (oa 12) o.2.2.2.2.1, wAu G (oa 13) (oa 14) (oa 15) (oa 16) (oa 17) (oa 18) (oa 19) o.2.2.2.2.2]) := hD
  refine W.eq (g2 := F0 m 32 ls []) rfl ?_
  have hF : f_X8_copyFrom0 v o = (let u_4 : ExV := (f_X1_copyFrom v.2.2.2.1 o.2.2.2.1); (let u_6 : PeV := (f_X5_copyFrom v.2.2.2.2.1 o.2.2.2.2.1); (let u_8 : AuV := (f_X0_copyFrom v.2.2.2.2.2 o.2.2.2.2.2); (o.1, o.2.1, u_2, u_4, u_6, u_8)))) := by subst eu_2; exact hF
  refine lv_aload_n hx hb dX8_copyFrom_32 rfl (lv_at hl 0 rfl) ?_
  refine va_get (D := G.1) (ci := 10) (v := .ref (va 6)) (C := RX8) (T := TX8) (N := 6) hx hb hts uws_X8 hown hK hP 10 rfl rfl 3 (by decide) (hts _ u_1029) (fun _ h9 => h9) rfl dX8_copyFrom_33 ?_
  refine lv_aload_n hx hb dX8_copyFrom_36 rfl (lv_at hl 1 rfl) ?_
  refine va_get (D := G.1) (ci := 10) (v := .ref (oa 6)) (C := RX8) (T := TX8) (N := 6) hx hb hts uws_X8 hown hK hP 25 rfl rfl 3 (by decide) (hts _ u_1029) (fun _ h9 => h9) rfl dX8_copyFrom_37 ?_
  refine w_V (own := RX8) (cs := [wEx G (va 6) (va 7) (va 8) (va 9) v.2.2.2.1, wEx G (oa 6) (oa 7) (oa 8) (oa 9) o.2.2.2.1]) (rs := [wDo G (va 1) (va 2) (va 3) (va 4) (va 5) u_2, wDo G (oa 1) (oa 2) (oa 3) (oa 4) (oa 5) o.2.2.1, [((va 0), .inr (10, [.int o.1, .int o.2.1, .ref (va 1), .ref (va 6), .ref (va 10), .ref (va 13)]))], wPe G (va 10) (va 11) (va 12) v.2.2.2.2.1, wAu G (va 13) (va 14) (va 15) (va 16) (va 17) (va 18) (va 19) v.2.2.2.2.2, [((oa 0), .inr (10, [.int o.1, .int o.2.1, .ref (oa 1), .ref (oa 6), .ref (oa 10), .ref (oa 13)]))], wPe G (oa 10) (oa 11) (oa 12) o.2.2.2.2.1, wAu G (oa 13) (oa 14) (oa 15) (oa 16) (oa 17) (oa 18) (oa 19) o.2.2.2.2.2]) (As := [.ref (oa 6)]) (rest := []) (c_X1_copyFrom l G (va 6) (va 7) (va 8) (va 9) (oa 6) (oa 7) (oa 8) (oa 9) H.size v.2.2.2.1 o.2.2.2.1) ⟨hx, hb, hml, hown, hts⟩ g_X8_154 hdv_X1_copyFrom hK hST hS hP hD hA [3, 7] [0, 1, 2, 4, 5, 6, 8, 9] rfl rfl rfl (k0 := 0) rfl rfl rfl ⟨Nat.le_of_ble_eq_true rfl, Nat.le_of_ble_eq_true rfl⟩ ⟨Nat.le_of_ble_eq_true rfl, Nat.le_of_ble_eq_true rfl⟩ rfl hl.1 rfl (Nat.le_of_ble_eq_true rfl) dX8_copyFrom_40 (fun u_4 H locs huu hP hD hS => ?_)
  have eu_4 := huu
  have hP : va_P G.1 vwCl (fl [wEx G (va 6) (va 7) (va 8) (va 9) u_4, wEx G (oa 6) (oa 7) (oa 8) (oa 9) o.2.2.2.1, wDo G (va 1) (va 2) (va 3) (va 4) (va 5) u_2, wDo G (oa 1) (oa 2) (oa 3) (oa 4) (oa 5) o.2.2.1, [((va 0), .inr (10, [.int o.1, .int o.2.1, .ref (va 1), .ref (va 6), .ref (va 10), .ref (va 13)]))], wPe G (va 10) (va 11) (va 12) v.2.2.2.2.1, wAu G (va 13) (va 14) (va 15) (va 16) (va 17) (va 18) (va 19) v.2.2.2.2.2, [((oa 0), .inr (10, [.int o.1, .int o.2.1, .ref (oa 1), .ref (oa 6), .ref (oa 10), .ref (oa 13)]))], wPe G (oa 10) (oa 11) (oa 12) o.2.2.2.2.1, wAu G (oa 13) (oa 14) (oa 15) (oa 16) (oa 17) (oa 18) (oa 19) o.2.2.2.2.2]) H := hP
  have hD : va_D A (fl [wEx G (va 6) (va 7) (va 8) (va 9) u_4, wEx G (oa 6) (oa 7) (oa 8) (oa 9) o.2.2.2.1, wDo G (va 1) (va 2) (va 3) (va 4) (va 5) u_2, wDo G (oa 1) (oa 2) (oa 3) (oa 4) (oa 5) o.2.2.1, [((va 0), .inr (10, [.int o.1, .int o.2.1, .ref (va 1), .ref (va 6), .ref (va 10), .ref (va 13)]))], wPe G (va 10) (va 11) (va 12) v.2.2.2.2.1, wAu G (va 13) (va 14) (va 15) (va 16) (va 17) (va 18) (va 19) v.2.2.2.2.2, [((oa 0), .inr (10, [.int o.1, .int o.2.1, .ref (oa 1), .ref (oa 6), .ref (oa 10), .ref (oa 13)]))], wPe G (oa 10) (oa 11) (oa 12) o.2.2.2.2.1, wAu G (oa 13) (oa 14) (oa 15) (oa 16) (oa 17) (oa 18) (oa 19) o.2.2.2.2.2]) := hD
  refine W.eq (g2 := F0 m 43 ls []) rfl ?_
  have hF : f_X8_copyFrom0 v o = (let u_6 : PeV := (f_X5_copyFrom v.2.2.2.2.1 o.2.2.2.2.1); (let u_8 : AuV := (f_X0_copyFrom v.2.2.2.2.2 o.2.2.2.2.2); (o.1, o.2.1, u_2, u_4, u_6, u_8))) := by subst eu_4; exact hF
  refine lv_aload_n hx hb dX8_copyFrom_43 rfl (lv_at hl 0 rfl) ?_
  refine va_get (D := G.1) (ci := 10) (v := .ref (va 10)) (C := RX8) (T := TX8) (N := 6) hx hb hts uws_X8 hown hK hP 18 rfl rfl 4 (by decide) (hts _ u_1031) (fun _ h9 => h9) rfl dX8_copyFrom_44 ?_
  refine lv_aload_n hx hb dX8_copyFrom_47 rfl (lv_at hl 1 rfl) ?_
  refine va_get (D := G.1) (ci := 10) (v := .ref (oa 10)) (C := RX8) (T := TX8) (N := 6) hx hb hts uws_X8 hown hK hP 29 rfl rfl 4 (by decide) (hts _ u_1031) (fun _ h9 => h9) rfl dX8_copyFrom_48 ?_
  refine w_V (own := RX8) (cs := [wPe G (va 10) (va 11) (va 12) v.2.2.2.2.1, wPe G (oa 10) (oa 11) (oa 12) o.2.2.2.2.1]) (rs := [wEx G (va 6) (va 7) (va 8) (va 9) u_4, wEx G (oa 6) (oa 7) (oa 8) (oa 9) o.2.2.2.1, wDo G (va 1) (va 2) (va 3) (va 4) (va 5) u_2, wDo G (oa 1) (oa 2) (oa 3) (oa 4) (oa 5) o.2.2.1, [((va 0), .inr (10, [.int o.1, .int o.2.1, .ref (va 1), .ref (va 6), .ref (va 10), .ref (va 13)]))], wAu G (va 13) (va 14) (va 15) (va 16) (va 17) (va 18) (va 19) v.2.2.2.2.2, [((oa 0), .inr (10, [.int o.1, .int o.2.1, .ref (oa 1), .ref (oa 6), .ref (oa 10), .ref (oa 13)]))], wAu G (oa 13) (oa 14) (oa 15) (oa 16) (oa 17) (oa 18) (oa 19) o.2.2.2.2.2]) (As := [.ref (oa 10)]) (rest := []) (c_X5_copyFrom l G (va 10) (va 11) (va 12) (oa 10) (oa 11) (oa 12) H.size v.2.2.2.2.1 o.2.2.2.2.1) ⟨hx, hb, hml, hown, hts⟩ g_X8_157 hdv_X5_copyFrom hK hST hS hP hD hA [5, 8] [0, 1, 2, 3, 4, 6, 7, 9] rfl rfl rfl (k0 := 0) rfl rfl rfl ⟨Nat.le_of_ble_eq_true rfl, Nat.le_of_ble_eq_true rfl⟩ ⟨Nat.le_of_ble_eq_true rfl, Nat.le_of_ble_eq_true rfl⟩ rfl hl.1 rfl (Nat.le_of_ble_eq_true rfl) dX8_copyFrom_51 (fun u_6 H locs huu hP hD hS => ?_)
  have eu_6 := huu
  have hP : va_P G.1 vwCl (fl [wPe G (va 10) (va 11) (va 12) u_6, wPe G (oa 10) (oa 11) (oa 12) o.2.2.2.2.1, wEx G (va 6) (va 7) (va 8) (va 9) u_4, wEx G (oa 6) (oa 7) (oa 8) (oa 9) o.2.2.2.1, wDo G (va 1) (va 2) (va 3) (va 4) (va 5) u_2, wDo G (oa 1) (oa 2) (oa 3) (oa 4) (oa 5) o.2.2.1, [((va 0), .inr (10, [.int o.1, .int o.2.1, .ref (va 1), .ref (va 6), .ref (va 10), .ref (va 13)]))], wAu G (va 13) (va 14) (va 15) (va 16) (va 17) (va 18) (va 19) v.2.2.2.2.2, [((oa 0), .inr (10, [.int o.1, .int o.2.1, .ref (oa 1), .ref (oa 6), .ref (oa 10), .ref (oa 13)]))], wAu G (oa 13) (oa 14) (oa 15) (oa 16) (oa 17) (oa 18) (oa 19) o.2.2.2.2.2]) H := hP
  have hD : va_D A (fl [wPe G (va 10) (va 11) (va 12) u_6, wPe G (oa 10) (oa 11) (oa 12) o.2.2.2.2.1, wEx G (va 6) (va 7) (va 8) (va 9) u_4, wEx G (oa 6) (oa 7) (oa 8) (oa 9) o.2.2.2.1, wDo G (va 1) (va 2) (va 3) (va 4) (va 5) u_2, wDo G (oa 1) (oa 2) (oa 3) (oa 4) (oa 5) o.2.2.1, [((va 0), .inr (10, [.int o.1, .int o.2.1, .ref (va 1), .ref (va 6), .ref (va 10), .ref (va 13)]))], wAu G (va 13) (va 14) (va 15) (va 16) (va 17) (va 18) (va 19) v.2.2.2.2.2, [((oa 0), .inr (10, [.int o.1, .int o.2.1, .ref (oa 1), .ref (oa 6), .ref (oa 10), .ref (oa 13)]))], wAu G (oa 13) (oa 14) (oa 15) (oa 16) (oa 17) (oa 18) (oa 19) o.2.2.2.2.2]) := hD
  refine W.eq (g2 := F0 m 54 ls []) rfl ?_
  have hF : f_X8_copyFrom0 v o = (let u_8 : AuV := (f_X0_copyFrom v.2.2.2.2.2 o.2.2.2.2.2); (o.1, o.2.1, u_2, u_4, u_6, u_8)) := by subst eu_6; exact hF
  refine lv_aload_n hx hb dX8_copyFrom_54 rfl (lv_at hl 0 rfl) ?_
  refine va_get (D := G.1) (ci := 10) (v := .ref (va 13)) (C := RX8) (T := TX8) (N := 6) hx hb hts uws_X8 hown hK hP 24 rfl rfl 5 (by decide) (hts _ u_1033) (fun _ h9 => h9) rfl dX8_copyFrom_55 ?_
  refine lv_aload_n hx hb dX8_copyFrom_58 rfl (lv_at hl 1 rfl) ?_
  refine va_get (D := G.1) (ci := 10) (v := .ref (oa 13)) (C := RX8) (T := TX8) (N := 6) hx hb hts uws_X8 hown hK hP 32 rfl rfl 5 (by decide) (hts _ u_1033) (fun _ h9 => h9) rfl dX8_copyFrom_59 ?_
  refine w_V (own := RX8) (cs := [wAu G (va 13) (va 14) (va 15) (va 16) (va 17) (va 18) (va 19) v.2.2.2.2.2, wAu G (oa 13) (oa 14) (oa 15) (oa 16) (oa 17) (oa 18) (oa 19) o.2.2.2.2.2]) (rs := [wPe G (va 10) (va 11) (va 12) u_6, wPe G (oa 10) (oa 11) (oa 12) o.2.2.2.2.1, wEx G (va 6) (va 7) (va 8) (va 9) u_4, wEx G (oa 6) (oa 7) (oa 8) (oa 9) o.2.2.2.1, wDo G (va 1) (va 2) (va 3) (va 4) (va 5) u_2, wDo G (oa 1) (oa 2) (oa 3) (oa 4) (oa 5) o.2.2.1, [((va 0), .inr (10, [.int o.1, .int o.2.1, .ref (va 1), .ref (va 6), .ref (va 10), .ref (va 13)]))], [((oa 0), .inr (10, [.int o.1, .int o.2.1, .ref (oa 1), .ref (oa 6), .ref (oa 10), .ref (oa 13)]))]]) (As := [.ref (oa 13)]) (rest := []) (c_X0_copyFrom l G (va 13) (va 14) (va 15) (va 16) (va 17) (va 18) (va 19) (oa 13) (oa 14) (oa 15) (oa 16) (oa 17) (oa 18) (oa 19) H.size v.2.2.2.2.2 o.2.2.2.2.2) ⟨hx, hb, hml, hown, hts⟩ g_X8_160 hdv_X0_copyFrom hK hST hS hP hD hA [7, 9] [0, 1, 2, 3, 4, 5, 6, 8] rfl rfl rfl (k0 := 0) rfl rfl rfl ⟨Nat.le_of_ble_eq_true rfl, Nat.le_of_ble_eq_true rfl⟩ ⟨Nat.le_of_ble_eq_true rfl, Nat.le_of_ble_eq_true rfl⟩ rfl hl.1 rfl (Nat.le_of_ble_eq_true rfl) dX8_copyFrom_62 (fun u_8 H locs huu hP hD hS => ?_)
  have eu_8 := huu
  have hP : va_P G.1 vwCl (fl [wAu G (va 13) (va 14) (va 15) (va 16) (va 17) (va 18) (va 19) u_8, wAu G (oa 13) (oa 14) (oa 15) (oa 16) (oa 17) (oa 18) (oa 19) o.2.2.2.2.2, wPe G (va 10) (va 11) (va 12) u_6, wPe G (oa 10) (oa 11) (oa 12) o.2.2.2.2.1, wEx G (va 6) (va 7) (va 8) (va 9) u_4, wEx G (oa 6) (oa 7) (oa 8) (oa 9) o.2.2.2.1, wDo G (va 1) (va 2) (va 3) (va 4) (va 5) u_2, wDo G (oa 1) (oa 2) (oa 3) (oa 4) (oa 5) o.2.2.1, [((va 0), .inr (10, [.int o.1, .int o.2.1, .ref (va 1), .ref (va 6), .ref (va 10), .ref (va 13)]))], [((oa 0), .inr (10, [.int o.1, .int o.2.1, .ref (oa 1), .ref (oa 6), .ref (oa 10), .ref (oa 13)]))]]) H := hP
  have hD : va_D A (fl [wAu G (va 13) (va 14) (va 15) (va 16) (va 17) (va 18) (va 19) u_8, wAu G (oa 13) (oa 14) (oa 15) (oa 16) (oa 17) (oa 18) (oa 19) o.2.2.2.2.2, wPe G (va 10) (va 11) (va 12) u_6, wPe G (oa 10) (oa 11) (oa 12) o.2.2.2.2.1, wEx G (va 6) (va 7) (va 8) (va 9) u_4, wEx G (oa 6) (oa 7) (oa 8) (oa 9) o.2.2.2.1, wDo G (va 1) (va 2) (va 3) (va 4) (va 5) u_2, wDo G (oa 1) (oa 2) (oa 3) (oa 4) (oa 5) o.2.2.1, [((va 0), .inr (10, [.int o.1, .int o.2.1, .ref (va 1), .ref (va 6), .ref (va 10), .ref (va 13)]))], [((oa 0), .inr (10, [.int o.1, .int o.2.1, .ref (oa 1), .ref (oa 6), .ref (oa 10), .ref (oa 13)]))]]) := hD
  refine W.eq (g2 := F0 m 65 ls []) rfl ?_
  have hF : f_X8_copyFrom0 v o = (o.1, o.2.1, u_2, u_4, u_6, u_8) := by subst eu_8; exact hF
  have hP := fl_sub (cs := [[((va 0), .inr (10, [.int o.1, .int o.2.1, .ref (va 1), .ref (va 6), .ref (va 10), .ref (va 13)]))], wDo G (va 1) (va 2) (va 3) (va 4) (va 5) u_2, wEx G (va 6) (va 7) (va 8) (va 9) u_4, wPe G (va 10) (va 11) (va 12) u_6, wAu G (va 13) (va 14) (va 15) (va 16) (va 17) (va 18) (va 19) u_8, [((oa 0), .inr (10, [.int o.1, .int o.2.1, .ref (oa 1), .ref (oa 6), .ref (oa 10), .ref (oa 13)]))], wDo G (oa 1) (oa 2) (oa 3) (oa 4) (oa 5) o.2.2.1, wEx G (oa 6) (oa 7) (oa 8) (oa 9) o.2.2.2.1, wPe G (oa 10) (oa 11) (oa 12) o.2.2.2.2.1, wAu G (oa 13) (oa 14) (oa 15) (oa 16) (oa 17) (oa 18) (oa 19) o.2.2.2.2.2]) [8, 6, 4, 2, 0, 9, 7, 5, 3, 1] rfl hP
  have hD := fl_subD (cs := [[((va 0), .inr (10, [.int o.1, .int o.2.1, .ref (va 1), .ref (va 6), .ref (va 10), .ref (va 13)]))], wDo G (va 1) (va 2) (va 3) (va 4) (va 5) u_2, wEx G (va 6) (va 7) (va 8) (va 9) u_4, wPe G (va 10) (va 11) (va 12) u_6, wAu G (va 13) (va 14) (va 15) (va 16) (va 17) (va 18) (va 19) u_8, [((oa 0), .inr (10, [.int o.1, .int o.2.1, .ref (oa 1), .ref (oa 6), .ref (oa 10), .ref (oa 13)]))], wDo G (oa 1) (oa 2) (oa 3) (oa 4) (oa 5) o.2.2.1, wEx G (oa 6) (oa 7) (oa 8) (oa 9) o.2.2.2.1, wPe G (oa 10) (oa 11) (oa 12) o.2.2.2.2.1, wAu G (oa 13) (oa 14) (oa 15) (oa 16) (oa 17) (oa 18) (oa 19) o.2.2.2.2.2]) [8, 6, 4, 2, 0, 9, 7, 5, 3, 1] rfl rfl hD
  exact w_retV (u := (o.1, o.2.1, u_2, u_4, u_6, u_8)) hx hb hr hlk hS rfl hF.symm hP hD (Nat.le_of_ble_eq_true rfl) (Nat.le_of_ble_eq_true rfl) dX8_copyFrom_65
/-! ===== the copy of a State holds what it was copied from: only what lies in the rows is told by the heap ===== -/
theorem sw_i {D : va_G} {cl : List vw_C} {H : Heap} {a n : Nat} {c : ClassId} {f g : Nat → Int32} {ws ws' : va_W} (h : ∀ j, j < n → f j = g j) (k : va_P D cl ws H → va_P D cl ws' H) (hP : va_P D cl ((a, .inl (c, n, .inl f)) :: ws) H) : va_P D cl ((a, .inl (c, n, .inl g)) :: ws') H := by
  rw [vP_mem] at hP k ⊢
  intro q hq
  rcases List.mem_cons.mp hq with e | e
  · subst e
    have h1 := hP _ List.mem_cons_self
    have h2 : H[a]? = some (arrV c n (fun j => .int (f j))) := h1
    have h3 : arrV c n (fun j => .int (f j)) = arrV c n (fun j => .int (g j)) := by
      unfold arrV
      have h4 : (Array.ofFn (n := n) fun j => Value.int (f j.val)) = Array.ofFn (n := n) fun j => Value.int (g j.val) := congrArg Array.ofFn (funext fun j => by rw [h j.val j.isLt])
      rw [h4]
    show H[a]? = some (arrV c n (fun j => .int (g j)))
    rw [h2, h3]
  · have := k (fun q hq => hP q (List.mem_cons_of_mem _ hq))
    rw [vP_mem] at this
    exact this q e
theorem sw_s {D : va_G} {cl : List vw_C} {H : Heap} {q : Nat × va_E} {ws ws' : va_W} (k : va_P D cl ws H → va_P D cl ws' H) (hP : va_P D cl (q :: ws) H) : va_P D cl (q :: ws') H := by
  rw [vP_mem] at hP k ⊢
  intro q hq
  rcases List.mem_cons.mp hq with e | e
  · subst e; exact hP _ List.mem_cons_self
  · have := k (fun q hq => hP q (List.mem_cons_of_mem _ hq))
    rw [vP_mem] at this
    exact this q e
theorem sw_D {A : Nat → Prop} {ws ws' : va_W} (hD : va_D A ws) (h : ws.map (fun q => q.1) = ws'.map (fun q => q.1)) : va_D A ws' := by
  have g : ∀ (k : Nat) (q : Nat × va_E), ws'[k]? = some q → ∃ q0, ws[k]? = some q0 ∧ q0.1 = q.1 := by
    intro k q hk
    have e := congrArg (fun z => z[k]?) h
    simp only [List.getElem?_map, hk, Option.map_some] at e
    cases hw : ws[k]? with
    | none => rw [hw] at e; cases e
    | some q0 => rw [hw] at e; exact ⟨q0, rfl, Option.some.inj e⟩
  refine ⟨fun i j p q hi hj hpq => ?_, fun k q hk => ?_⟩
  · obtain ⟨p0, h1, h2⟩ := g i p hi
    obtain ⟨q0, h3, h4⟩ := g j q hj
    exact hD.1 i j p0 q0 h1 h3 (h2.trans (hpq.trans h4.symm))
  · obtain ⟨q0, h1, h2⟩ := g k q hk
    rw [← h2]
    exact hD.2 k q0 h1
theorem cp_lp {n : Nat} (f g : Nat → Int32) (hn : n < 2 ^ 31 - 1) : ∀ (k i : Nat) (gL : Nat → Int32), i + k = n + 1 → (∀ j, j < i → j < n → gL j = f j) → 0 < k → ∀ j, j < n → lp_X7_copy_11 n f n g k (nI i) gL j = f j := by
  intro k
  induction k with
  | zero => intro i gL _ _ h; exact absurd h (Nat.lt_irrefl 0)
  | succ k ih =>
    intro i gL h hg _ j hj
    show (if nI n ≤ nI i then gL else if nI n ≤ nI i then gL else lp_X7_copy_11 n f n g k (nI i + 1) (upd gL (nI i).toNatClampNeg (f (nI i).toNatClampNeg))) j = f j
    by_cases hi : n ≤ i
    · rw [if_pos (nI_le hi (by omega))]
      exact hg j (by omega) hj
    · rw [if_neg (nI_ge (by omega) (by omega)), if_neg (nI_ge (by omega) (by omega)), nI_1, nI_clamp (by omega)]
      refine ih (i + 1) _ (by omega) (fun x hx hxn => ?_) (by omega) j hj
      by_cases e : x = i
      · subst e; simp [upd]
      · simp only [upd, if_neg e]; exact hg x (by omega) hxn
theorem cp_row {n : Nat} (f g : Nat → Int32) (hn : n < 2 ^ 31 - 1) : ∀ j, j < n → f_X7_copy n f n g j = f j := by
  unfold f_X7_copy
  rw [nI_toInt (by omega), show (0 : Int32).toInt = 0 from rfl, show ((n : Int) - 0).toNat + 1 = n + 1 by omega, show (0 : Int32) = nI 0 from rfl]
  exact cp_lp f g hn (n + 1) 0 g (by omega) (fun j hj => absurd hj (Nat.not_lt_zero j)) (by omega)
def f_X8_copyFrom (_v : StV) (o : StV) : StV := o
set_option maxHeartbeats 4000000 in
set_option maxRecDepth 100000 in
theorem cl_P {G : GG} {H : Heap} {va oa : Nat → Nat} (v o : StV) (h : va_P G.1 vwCl (fl [[((va 0), .inr (10, [.int (f_X8_copyFrom0 v o).1, .int (f_X8_copyFrom0 v o).2.1, .ref (va 1), .ref (va 6), .ref (va 10), .ref (va 13)]))], wDo G (va 1) (va 2) (va 3) (va 4) (va 5) (f_X8_copyFrom0 v o).2.2.1, wEx G (va 6) (va 7) (va 8) (va 9) (f_X8_copyFrom0 v o).2.2.2.1, wPe G (va 10) (va 11) (va 12) (f_X8_copyFrom0 v o).2.2.2.2.1, wAu G (va 13) (va 14) (va 15) (va 16) (va 17) (va 18) (va 19) (f_X8_copyFrom0 v o).2.2.2.2.2, [((oa 0), .inr (10, [.int o.1, .int o.2.1, .ref (oa 1), .ref (oa 6), .ref (oa 10), .ref (oa 13)]))], wDo G (oa 1) (oa 2) (oa 3) (oa 4) (oa 5) o.2.2.1, wEx G (oa 6) (oa 7) (oa 8) (oa 9) o.2.2.2.1, wPe G (oa 10) (oa 11) (oa 12) o.2.2.2.2.1, wAu G (oa 13) (oa 14) (oa 15) (oa 16) (oa 17) (oa 18) (oa 19) o.2.2.2.2.2]) H) : va_P G.1 vwCl (fl [[((va 0), .inr (10, [.int o.1, .int o.2.1, .ref (va 1), .ref (va 6), .ref (va 10), .ref (va 13)]))], wDo G (va 1) (va 2) (va 3) (va 4) (va 5) o.2.2.1, wEx G (va 6) (va 7) (va 8) (va 9) o.2.2.2.1, wPe G (va 10) (va 11) (va 12) o.2.2.2.2.1, wAu G (va 13) (va 14) (va 15) (va 16) (va 17) (va 18) (va 19) o.2.2.2.2.2, [((oa 0), .inr (10, [.int o.1, .int o.2.1, .ref (oa 1), .ref (oa 6), .ref (oa 10), .ref (oa 13)]))], wDo G (oa 1) (oa 2) (oa 3) (oa 4) (oa 5) o.2.2.1, wEx G (oa 6) (oa 7) (oa 8) (oa 9) o.2.2.2.1, wPe G (oa 10) (oa 11) (oa 12) o.2.2.2.2.1, wAu G (oa 13) (oa 14) (oa 15) (oa 16) (oa 17) (oa 18) (oa 19) o.2.2.2.2.2]) H := by
  have e : f_X8_copyFrom0 v o = (o.1, o.2.1, f_X2_copyFrom v.2.2.1 o.2.2.1, f_X1_copyFrom v.2.2.2.1 o.2.2.2.1, f_X5_copyFrom v.2.2.2.2.1 o.2.2.2.2.1, f_X0_copyFrom v.2.2.2.2.2 o.2.2.2.2.2) := rfl
  rw [e] at h
  have d := fun f g => cp_row (n := 8) f g (by decide)
  have x := fun f g => cp_row (n := 12) f g (by decide)
  have p := fun f g => cp_row (n := 6) f g (by decide)
  have a := fun f g => cp_row (n := 64) f g (by decide)
  have r := fun f g => cp_row (n := 5) f g (by decide)
  have l := fun f g => cp_row (n := 10) f g (by decide)
  exact sw_s (sw_s (sw_i (d _ _) (sw_i (d _ _) (sw_i (d _ _) (sw_i (d _ _) (sw_s (sw_i (x _ _) (sw_i (x _ _) (sw_i (x _ _) (sw_s (sw_i (p _ _) (sw_i (p _ _) (sw_s (sw_i (a _ _) (sw_i (a _ _) (sw_i (r _ _) (sw_i (l _ _) (sw_i (l _ _) (sw_i (l _ _) id))))))))))))))))))) h
set_option maxRecDepth 100000 in
theorem cl_D {G : GG} {A : Nat → Prop} {va oa : Nat → Nat} (v o : StV) (h : va_D A (fl [[((va 0), .inr (10, [.int (f_X8_copyFrom0 v o).1, .int (f_X8_copyFrom0 v o).2.1, .ref (va 1), .ref (va 6), .ref (va 10), .ref (va 13)]))], wDo G (va 1) (va 2) (va 3) (va 4) (va 5) (f_X8_copyFrom0 v o).2.2.1, wEx G (va 6) (va 7) (va 8) (va 9) (f_X8_copyFrom0 v o).2.2.2.1, wPe G (va 10) (va 11) (va 12) (f_X8_copyFrom0 v o).2.2.2.2.1, wAu G (va 13) (va 14) (va 15) (va 16) (va 17) (va 18) (va 19) (f_X8_copyFrom0 v o).2.2.2.2.2, [((oa 0), .inr (10, [.int o.1, .int o.2.1, .ref (oa 1), .ref (oa 6), .ref (oa 10), .ref (oa 13)]))], wDo G (oa 1) (oa 2) (oa 3) (oa 4) (oa 5) o.2.2.1, wEx G (oa 6) (oa 7) (oa 8) (oa 9) o.2.2.2.1, wPe G (oa 10) (oa 11) (oa 12) o.2.2.2.2.1, wAu G (oa 13) (oa 14) (oa 15) (oa 16) (oa 17) (oa 18) (oa 19) o.2.2.2.2.2])) : va_D A (fl [[((va 0), .inr (10, [.int o.1, .int o.2.1, .ref (va 1), .ref (va 6), .ref (va 10), .ref (va 13)]))], wDo G (va 1) (va 2) (va 3) (va 4) (va 5) o.2.2.1, wEx G (va 6) (va 7) (va 8) (va 9) o.2.2.2.1, wPe G (va 10) (va 11) (va 12) o.2.2.2.2.1, wAu G (va 13) (va 14) (va 15) (va 16) (va 17) (va 18) (va 19) o.2.2.2.2.2, [((oa 0), .inr (10, [.int o.1, .int o.2.1, .ref (oa 1), .ref (oa 6), .ref (oa 10), .ref (oa 13)]))], wDo G (oa 1) (oa 2) (oa 3) (oa 4) (oa 5) o.2.2.1, wEx G (oa 6) (oa 7) (oa 8) (oa 9) o.2.2.2.1, wPe G (oa 10) (oa 11) (oa 12) o.2.2.2.2.1, wAu G (oa 13) (oa 14) (oa 15) (oa 16) (oa 17) (oa 18) (oa 19) o.2.2.2.2.2]) := sw_D h rfl
set_option maxHeartbeats 4000000 in
set_option maxRecDepth 100000 in
theorem c_X8_copyFrom (l : Launch) (G : GG) (va : Nat → Nat) (oa : Nat → Nat) (sz : Nat) (v : StV) (o : StV) : wMet l yX8_copyFrom cX8_copyFrom 2 none 3 0 0 G (fl [[((va 0), .inr (10, [.int v.1, .int v.2.1, .ref (va 1), .ref (va 6), .ref (va 10), .ref (va 13)]))], wDo G (va 1) (va 2) (va 3) (va 4) (va 5) v.2.2.1, wEx G (va 6) (va 7) (va 8) (va 9) v.2.2.2.1, wPe G (va 10) (va 11) (va 12) v.2.2.2.2.1, wAu G (va 13) (va 14) (va 15) (va 16) (va 17) (va 18) (va 19) v.2.2.2.2.2, [((oa 0), .inr (10, [.int o.1, .int o.2.1, .ref (oa 1), .ref (oa 6), .ref (oa 10), .ref (oa 13)]))], wDo G (oa 1) (oa 2) (oa 3) (oa 4) (oa 5) o.2.2.1, wEx G (oa 6) (oa 7) (oa 8) (oa 9) o.2.2.2.1, wPe G (oa 10) (oa 11) (oa 12) o.2.2.2.2.1, wAu G (oa 13) (oa 14) (oa 15) (oa 16) (oa 17) (oa 18) (oa 19) o.2.2.2.2.2]) [.ref (va 0), .ref (oa 0)] sz (fun u : StV => none) (fun u : StV => u = f_X8_copyFrom v o) (fun u : StV => fl [[((va 0), .inr (10, [.int u.1, .int u.2.1, .ref (va 1), .ref (va 6), .ref (va 10), .ref (va 13)]))], wDo G (va 1) (va 2) (va 3) (va 4) (va 5) u.2.2.1, wEx G (va 6) (va 7) (va 8) (va 9) u.2.2.2.1, wPe G (va 10) (va 11) (va 12) u.2.2.2.2.1, wAu G (va 13) (va 14) (va 15) (va 16) (va 17) (va 18) (va 19) u.2.2.2.2.2, [((oa 0), .inr (10, [.int o.1, .int o.2.1, .ref (oa 1), .ref (oa 6), .ref (oa 10), .ref (oa 13)]))], wDo G (oa 1) (oa 2) (oa 3) (oa 4) (oa 5) o.2.2.1, wEx G (oa 6) (oa 7) (oa 8) (oa 9) o.2.2.2.1, wPe G (oa 10) (oa 11) (oa 12) o.2.2.2.2.1, wAu G (oa 13) (oa 14) (oa 15) (oa 16) (oa 17) (oa 18) (oa 19) o.2.2.2.2.2]) := by
  refine MetFree.mono (c_X8_copyFrom0 l G va oa sz v o) (fun _ _ h => h) (fun _ _ _ _ _ h => h) (fun a s t s' _ h => ?_)
  obtain ⟨⟨⟨u, h1, h2, h3, h4⟩, h5⟩, h6⟩ := h
  have h2 : u = f_X8_copyFrom0 v o := h2
  subst h2
  exact ⟨⟨⟨o, h1, rfl, cl_P v o h3, cl_D v o h4⟩, h5⟩, h6⟩
