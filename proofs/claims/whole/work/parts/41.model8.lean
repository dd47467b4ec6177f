theorem dX10_noticeAt_0 : decode cX10_noticeAt 0 = .ok (.aload_n 0, 1) := by decide +kernel
theorem dX10_noticeAt_1 : decode cX10_noticeAt 1 = .ok (.iload_n 1, 1) := by decide +kernel
theorem dX10_noticeAt_2 : decode cX10_noticeAt 2 = .ok (.iconst 0, 1) := by decide +kernel
theorem dX10_noticeAt_3 : decode cX10_noticeAt 3 = .ok (.aload_n 0, 1) := by decide +kernel
theorem dX10_noticeAt_4 : decode cX10_noticeAt 4 = .ok (.getfield 166, 3) := by decide +kernel
theorem dX10_noticeAt_7 : decode cX10_noticeAt 7 = .ok (.iconst 1, 1) := by decide +kernel
theorem dX10_noticeAt_8 : decode cX10_noticeAt 8 = .ok (.isub, 1) := by decide +kernel
theorem dX10_noticeAt_9 : decode cX10_noticeAt 9 = .ok (.invokestatic 48, 3) := by decide +kernel
theorem dX10_noticeAt_12 : decode cX10_noticeAt 12 = .ok (.ifCond .ne 7, 3) := by decide +kernel
theorem dX10_noticeAt_19 : decode cX10_noticeAt 19 = .ok (.iconst 0, 1) := by decide +kernel
theorem dX10_noticeAt_20 : decode cX10_noticeAt 20 = .ok (.iconst 1, 1) := by decide +kernel
theorem dX10_noticeAt_21 : decode cX10_noticeAt 21 = .ok (.invokevirtual 63, 3) := by decide +kernel
theorem dX10_noticeAt_24 : decode cX10_noticeAt 24 = .ok (.ifCond .eq 7, 3) := by decide +kernel
theorem dX10_noticeAt_31 : decode cX10_noticeAt 31 = .ok (.aload_n 0, 1) := by decide +kernel
theorem dX10_noticeAt_32 : decode cX10_noticeAt 32 = .ok (.getfield 29, 3) := by decide +kernel
theorem dX10_noticeAt_35 : decode cX10_noticeAt 35 = .ok (.iload_n 1, 1) := by decide +kernel
theorem dX10_noticeAt_36 : decode cX10_noticeAt 36 = .ok (.iaload, 1) := by decide +kernel
theorem dX10_noticeAt_37 : decode cX10_noticeAt 37 = .ok (.i2c, 1) := by decide +kernel
theorem dX10_noticeAt_38 : decode cX10_noticeAt 38 = .ok (.ireturn, 1) := by decide +kernel
theorem dX10_noticeAt_15 : decode cX10_noticeAt 15 = .ok (.iconst 1, 1) := by decide +kernel
theorem dX10_noticeAt_16 : decode cX10_noticeAt 16 = .ok (.goto 4, 3) := by decide +kernel
theorem dX10_noticeAt_27 : decode cX10_noticeAt 27 = .ok (.iconst 0, 1) := by decide +kernel
theorem dX10_noticeAt_28 : decode cX10_noticeAt 28 = .ok (.goto 10, 3) := by decide +kernel
def f_X10_noticeAt (d : MoV) (i : Int32) : Int32 × MoV := (if (f_X10_isIn i (0 : Int32) (d.2.2.2.2.2.2.2.2.2.2.2.1 - (1 : Int32))) = (0 : Int32) then (let u_8 : MoV := (f_X10_isThrown d (1 : Int32) (1 : Int32)); ((0 : Int32), u_8)) else (let u_4 : MoV := (f_X10_isThrown d (0 : Int32) (1 : Int32)); (((u_4.2.2.2.2.2.2.2.2.2.2.1 i.toNatClampNeg).toUInt32 % 65536).toInt32, u_4)))
def ok_X10_noticeAt (d : MoV) (i : Int32) : Prop := (if (f_X10_isIn i (0 : Int32) (d.2.2.2.2.2.2.2.2.2.2.2.1 - (1 : Int32))) = (0 : Int32) then True else (let u_4 : MoV := (f_X10_isThrown d (0 : Int32) (1 : Int32)); (vp_in i 40 ∧ True)))
set_option maxHeartbeats 4000000 in
set_option maxRecDepth 100000 in
theorem c_X10_noticeAt (l : Launch) (G : GG) (dh0 : Nat) (dh1 : Nat) (dh2 : Nat) (dh3 : Nat) (dh4 : Nat) (dh5 : Nat) (dh6 : Nat) (dh7 : Nat) (sz : Nat) (d : MoV) (i : Int32) (hok : ok_X10_noticeAt d i) : wMet l yX10_noticeAt cX10_noticeAt 2 (some .char) 2 0 0 G (fl [wMo G dh0 dh1 dh2 dh3 dh4 dh5 dh6 dh7 d]) [.ref dh0, .int i] sz (fun u : Int32 × MoV => some (.int u.1)) (fun u : Int32 × MoV => u = f_X10_noticeAt d i ∧ narrow .char (.int ((f_X10_noticeAt d i).1)) = .int ((f_X10_noticeAt d i).1)) (fun u : Int32 × MoV => fl [wMo G dh0 dh1 dh2 dh3 dh4 dh5 dh6 dh7 u.2]) := by
  refine w_start (by decide +kernel) (Nat.le_of_ble_eq_true rfl) ?_
  intro p e s m below meth c A hx hb hr hml hts hown hlk hin hP hD hA hK hST ls hl
  have hS : va_S A s.heap s.heap [] := va_S.rf
  have hown : s.vm.findClass RX10 = some m.cls := hown
  have hl : lv_has ls 2 [(0, .ref dh0), (1, .int i)] := hl
  have hF : f_X10_noticeAt d i = (if (f_X10_isIn i (0 : Int32) (d.2.2.2.2.2.2.2.2.2.2.2.1 - (1 : Int32))) = (0 : Int32) then (let u_8 : MoV := (f_X10_isThrown d (1 : Int32) (1 : Int32)); ((0 : Int32), u_8)) else (let u_4 : MoV := (f_X10_isThrown d (0 : Int32) (1 : Int32)); (((u_4.2.2.2.2.2.2.2.2.2.2.1 i.toNatClampNeg).toUInt32 % 65536).toInt32, u_4))) := rfl
  have hok : (if (f_X10_isIn i (0 : Int32) (d.2.2.2.2.2.2.2.2.2.2.2.1 - (1 : Int32))) = (0 : Int32) then True else (let u_4 : MoV := (f_X10_isThrown d (0 : Int32) (1 : Int32)); (vp_in i 40 ∧ True))) := hok
  refine lv_aload_n hx hb dX10_noticeAt_0 rfl (lv_at hl 0 rfl) ?_
  refine lv_iload_n hx hb dX10_noticeAt_1 rfl (lv_at hl 1 rfl) ?_
  refine lv_iconst (v := (0 : Int32)) hx hb dX10_noticeAt_2 (by decide) ?_
  refine lv_aload_n hx hb dX10_noticeAt_3 rfl (lv_at hl 0 rfl) ?_
  refine va_get (D := G.1) (ci := 12) (v := .int d.2.2.2.2.2.2.2.2.2.2.2.1) (C := RX10) (T := TX10) (N := 17) hx hb hts uws_X10 hown hK hP 0 rfl rfl 11 (by decide) (hts _ u_1691) (fun _ h9 => h9) rfl dX10_noticeAt_4 ?_
  refine lv_iconst (v := (1 : Int32)) hx hb dX10_noticeAt_7 (by decide) ?_
  refine lv_isub hx hb dX10_noticeAt_8 ?_
  refine r_S (own := RX10) (v := (some (.int (f_X10_isIn i (0 : Int32) (d.2.2.2.2.2.2.2.2.2.2.2.1 - (1 : Int32)))))) (st1 := [.int (f_X10_isIn i (0 : Int32) (d.2.2.2.2.2.2.2.2.2.2.2.1 - (1 : Int32))), .ref dh0]) (As := [.int i, .int (0 : Int32), .int (d.2.2.2.2.2.2.2.2.2.2.2.1 - (1 : Int32))]) (rest := [.ref dh0]) (c_X10_isIn l G i (0 : Int32) (d.2.2.2.2.2.2.2.2.2.2.2.1 - (1 : Int32))) ⟨hx, hb, hml, hown, hts⟩ g_X10_48 hds_X10_isIn hK hST hS hP [] rfl ⟨Nat.le_of_ble_eq_true rfl, Nat.le_of_ble_eq_true rfl⟩ ⟨Nat.le_of_ble_eq_true rfl, Nat.le_of_ble_eq_true rfl⟩ rfl hl.1 rfl (Nat.le_of_ble_eq_true rfl) dX10_noticeAt_9 rfl (fun b_1 => ?_)
  refine lv_if_ne (tgt := 19) hx hb dX10_noticeAt_12 (by decide) (fun c_2 => ?_) (fun c_2 => ?_)
  · have hF := hF.trans (if_neg c_2)
    have hok := Eq.mp (if_neg c_2) hok
    refine lv_iconst (v := (0 : Int32)) hx hb dX10_noticeAt_19 (by decide) ?_
    refine lv_iconst (v := (1 : Int32)) hx hb dX10_noticeAt_20 (by decide) ?_
    refine w_V (own := RX10) (cs := [wMo G dh0 dh1 dh2 dh3 dh4 dh5 dh6 dh7 d]) (rs := []) (As := [.int (0 : Int32), .int (1 : Int32)]) (rest := []) (c_X10_isThrown l G dh0 dh1 dh2 dh3 dh4 dh5 dh6 dh7 s.heap.size d (0 : Int32) (1 : Int32) (rfl)) ⟨hx, hb, hml, hown, hts⟩ g_X10_63 hdv_X10_isThrown hK hST hS hP hD hA [0] [] rfl rfl rfl (k0 := 0) rfl rfl rfl ⟨Nat.le_of_ble_eq_true rfl, Nat.le_of_ble_eq_true rfl⟩ ⟨Nat.le_of_ble_eq_true rfl, Nat.le_of_ble_eq_true rfl⟩ rfl hl.1 rfl (Nat.le_of_ble_eq_true rfl) dX10_noticeAt_21 (fun u_4 H locs huu hP hD hS => ?_)
    have eu_4 := huu
    have hP : va_P G.1 vwCl (fl [wMo G dh0 dh1 dh2 dh3 dh4 dh5 dh6 dh7 u_4]) H := hP
    have hD : va_D A (fl [wMo G dh0 dh1 dh2 dh3 dh4 dh5 dh6 dh7 u_4]) := hD
    refine W.eq (g2 := F0 m 24 ls [.int (0 : Int32)]) rfl ?_
    have hF : f_X10_noticeAt d i = (((u_4.2.2.2.2.2.2.2.2.2.2.1 i.toNatClampNeg).toUInt32 % 65536).toInt32, u_4) := by subst eu_4; exact hF
    have hok : (vp_in i 40 ∧ True) := by subst eu_4; exact hok
    refine lv_if_eq (tgt := 31) hx hb dX10_noticeAt_24 (by decide) (fun c_5 => ?_) (fun c_5 => ?_)
    · refine lv_aload_n hx hb dX10_noticeAt_31 rfl (lv_at hl 0 rfl) ?_
      refine va_get (D := G.1) (ci := 12) (v := .ref dh5) (C := RX10) (T := TX10) (N := 17) hx hb hts uws_X10 hown hK hP 0 rfl rfl 10 (by decide) (hts _ u_1690) (fun _ h9 => h9) rfl dX10_noticeAt_32 ?_
      refine lv_iload_n hx hb dX10_noticeAt_35 rfl (lv_at hl 1 rfl) ?_
      have h_6 := hok.1
      have hok := hok.2
      refine va_iald hx hb hK hP 5 0 rfl rfl h_6 dX10_noticeAt_36 ?_
      refine lv_i2c hx hb dX10_noticeAt_37 rfl ?_
      exact w_ret (u := (((u_4.2.2.2.2.2.2.2.2.2.2.1 i.toNatClampNeg).toUInt32 % 65536).toInt32, u_4)) hx hb hr hlk (pk_nc _) hS rfl ⟨hF.symm, (by rw [hF]; exact ((pk_nc _) : narrow .char (.int (((u_4.2.2.2.2.2.2.2.2.2.2.1 i.toNatClampNeg).toUInt32 % 65536).toInt32)) = .int (((u_4.2.2.2.2.2.2.2.2.2.2.1 i.toNatClampNeg).toUInt32 % 65536).toInt32)))⟩ hP hD (Nat.le_of_ble_eq_true rfl) (Nat.le_of_ble_eq_true rfl) dX10_noticeAt_38
    · exact absurd c_5 (by decide)
  · have hF := hF.trans (if_pos c_2)
    have hok := Eq.mp (if_pos c_2) hok
    refine lv_iconst (v := (1 : Int32)) hx hb dX10_noticeAt_15 (by decide) ?_
    refine lv_goto (tgt := 20) hx hb dX10_noticeAt_16 (by decide) ?_
    refine lv_iconst (v := (1 : Int32)) hx hb dX10_noticeAt_20 (by decide) ?_
    refine w_V (own := RX10) (cs := [wMo G dh0 dh1 dh2 dh3 dh4 dh5 dh6 dh7 d]) (rs := []) (As := [.int (1 : Int32), .int (1 : Int32)]) (rest := []) (c_X10_isThrown l G dh0 dh1 dh2 dh3 dh4 dh5 dh6 dh7 s.heap.size d (1 : Int32) (1 : Int32) (rfl)) ⟨hx, hb, hml, hown, hts⟩ g_X10_63 hdv_X10_isThrown hK hST hS hP hD hA [0] [] rfl rfl rfl (k0 := 0) rfl rfl rfl ⟨Nat.le_of_ble_eq_true rfl, Nat.le_of_ble_eq_true rfl⟩ ⟨Nat.le_of_ble_eq_true rfl, Nat.le_of_ble_eq_true rfl⟩ rfl hl.1 rfl (Nat.le_of_ble_eq_true rfl) dX10_noticeAt_21 (fun u_8 H locs huu hP hD hS => ?_)
    have eu_8 := huu
    have hP : va_P G.1 vwCl (fl [wMo G dh0 dh1 dh2 dh3 dh4 dh5 dh6 dh7 u_8]) H := hP
    have hD : va_D A (fl [wMo G dh0 dh1 dh2 dh3 dh4 dh5 dh6 dh7 u_8]) := hD
    refine W.eq (g2 := F0 m 24 ls [.int (1 : Int32)]) rfl ?_
    have hF : f_X10_noticeAt d i = ((0 : Int32), u_8) := by subst eu_8; exact hF
    refine lv_if_eq (tgt := 31) hx hb dX10_noticeAt_24 (by decide) (fun c_9 => ?_) (fun c_9 => ?_)
    · exact absurd c_9 (by decide)
    · refine lv_iconst (v := (0 : Int32)) hx hb dX10_noticeAt_27 (by decide) ?_
      refine lv_goto (tgt := 38) hx hb dX10_noticeAt_28 (by decide) ?_
      exact w_ret (u := ((0 : Int32), u_8)) hx hb hr hlk rfl hS rfl ⟨hF.symm, (by rw [hF]; exact (rfl : narrow .char (.int (0 : Int32)) = .int (0 : Int32)))⟩ hP hD (Nat.le_of_ble_eq_true rfl) (Nat.le_of_ble_eq_true rfl) dX10_noticeAt_38
theorem dX10_type_0 : decode cX10_type 0 = .ok (.aload_n 0, 1) := by decide +kernel
theorem dX10_type_1 : decode cX10_type 1 = .ok (.iload_n 1, 1) := by decide +kernel
theorem dX10_type_2 : decode cX10_type 2 = .ok (.bipush 32, 2) := by decide +kernel
theorem dX10_type_4 : decode cX10_type 4 = .ok (.bipush 126, 2) := by decide +kernel
theorem dX10_type_6 : decode cX10_type 6 = .ok (.invokestatic 48, 3) := by decide +kernel
theorem dX10_type_9 : decode cX10_type 9 = .ok (.ifCond .ne 7, 3) := by decide +kernel
theorem dX10_type_16 : decode cX10_type 16 = .ok (.iconst 0, 1) := by decide +kernel
theorem dX10_type_17 : decode cX10_type 17 = .ok (.iconst 1, 1) := by decide +kernel
theorem dX10_type_18 : decode cX10_type 18 = .ok (.invokevirtual 63, 3) := by decide +kernel
theorem dX10_type_21 : decode cX10_type 21 = .ok (.ifCond .ne 25, 3) := by decide +kernel
theorem dX10_type_24 : decode cX10_type 24 = .ok (.aload_n 0, 1) := by decide +kernel
theorem dX10_type_25 : decode cX10_type 25 = .ok (.aload_n 0, 1) := by decide +kernel
theorem dX10_type_26 : decode cX10_type 26 = .ok (.getfield 176, 3) := by decide +kernel
theorem u_1694 : Cond.fieldLink RX10 176 "MoonlitDoorsModel" "taped" "I" ∈ UW := uw 1694 (by decide +kernel) rfl
theorem dX10_type_29 : decode cX10_type 29 = .ok (.bipush 60, 2) := by decide +kernel
theorem dX10_type_31 : decode cX10_type 31 = .ok (.if_icmp .ne 7, 3) := by decide +kernel
theorem dX10_type_38 : decode cX10_type 38 = .ok (.iconst 0, 1) := by decide +kernel
theorem dX10_type_39 : decode cX10_type 39 = .ok (.iconst 2, 1) := by decide +kernel
theorem dX10_type_40 : decode cX10_type 40 = .ok (.invokevirtual 63, 3) := by decide +kernel
theorem dX10_type_43 : decode cX10_type 43 = .ok (.ifCond .eq 5, 3) := by decide +kernel
theorem dX10_type_48 : decode cX10_type 48 = .ok (.aload_n 0, 1) := by decide +kernel
theorem dX10_type_49 : decode cX10_type 49 = .ok (.getfield 32, 3) := by decide +kernel
theorem u_1692 : Cond.fieldLink RX10 32 "MoonlitDoorsModel" "tape" "[I" ∈ UW := uw 1692 (by decide +kernel) rfl
theorem dX10_type_52 : decode cX10_type 52 = .ok (.aload_n 0, 1) := by decide +kernel
theorem dX10_type_53 : decode cX10_type 53 = .ok (.getfield 176, 3) := by decide +kernel
theorem dX10_type_56 : decode cX10_type 56 = .ok (.iload_n 1, 1) := by decide +kernel
theorem dX10_type_57 : decode cX10_type 57 = .ok (.iastore, 1) := by decide +kernel
theorem dX10_type_58 : decode cX10_type 58 = .ok (.aload_n 0, 1) := by decide +kernel
theorem dX10_type_59 : decode cX10_type 59 = .ok (.dup, 1) := by decide +kernel
theorem dX10_type_60 : decode cX10_type 60 = .ok (.getfield 176, 3) := by decide +kernel
theorem dX10_type_63 : decode cX10_type 63 = .ok (.iconst 1, 1) := by decide +kernel
theorem dX10_type_64 : decode cX10_type 64 = .ok (.iadd, 1) := by decide +kernel
theorem dX10_type_65 : decode cX10_type 65 = .ok (.putfield 176, 3) := by decide +kernel
theorem dX10_type_68 : decode cX10_type 68 = .ok (.aload_n 0, 1) := by decide +kernel
theorem dX10_type_69 : decode cX10_type 69 = .ok (.getfield 176, 3) := by decide +kernel
theorem dX10_type_72 : decode cX10_type 72 = .ok (.ireturn, 1) := by decide +kernel
theorem dX10_type_34 : decode cX10_type 34 = .ok (.iconst 1, 1) := by decide +kernel
theorem dX10_type_35 : decode cX10_type 35 = .ok (.goto 4, 3) := by decide +kernel
theorem dX10_type_46 : decode cX10_type 46 = .ok (.iconst 0, 1) := by decide +kernel
theorem dX10_type_47 : decode cX10_type 47 = .ok (.ireturn, 1) := by decide +kernel
theorem dX10_type_12 : decode cX10_type 12 = .ok (.iconst 1, 1) := by decide +kernel
theorem dX10_type_13 : decode cX10_type 13 = .ok (.goto 4, 3) := by decide +kernel
def f_X10_type (d : MoV) (i : Int32) : Int32 × MoV := (if (f_X10_isIn i (32 : Int32) (126 : Int32)) = (0 : Int32) then (let u_15 : MoV := (f_X10_isThrown d (1 : Int32) (1 : Int32)); ((0 : Int32), u_15)) else (let u_4 : MoV := (f_X10_isThrown d (0 : Int32) (1 : Int32)); (if u_4.2.2.2.2.2.2.2.2.2.2.2.2.2.2.1 = (60 : Int32) then (let u_12 : MoV := (f_X10_isThrown u_4 (1 : Int32) (2 : Int32)); ((0 : Int32), u_12)) else (let u_8 : MoV := (f_X10_isThrown u_4 (0 : Int32) (2 : Int32)); ((u_8.2.2.2.2.2.2.2.2.2.2.2.2.2.2.1 + (1 : Int32)), (mo14 (mo12 u_8 (upd u_8.2.2.2.2.2.2.2.2.2.2.2.2.1 u_8.2.2.2.2.2.2.2.2.2.2.2.2.2.2.1.toNatClampNeg i)) (u_8.2.2.2.2.2.2.2.2.2.2.2.2.2.2.1 + (1 : Int32))))))))
def ok_X10_type (d : MoV) (i : Int32) : Prop := (if (f_X10_isIn i (32 : Int32) (126 : Int32)) = (0 : Int32) then True else (let u_4 : MoV := (f_X10_isThrown d (0 : Int32) (1 : Int32)); (if u_4.2.2.2.2.2.2.2.2.2.2.2.2.2.2.1 = (60 : Int32) then True else (let u_8 : MoV := (f_X10_isThrown u_4 (0 : Int32) (2 : Int32)); (vp_in u_8.2.2.2.2.2.2.2.2.2.2.2.2.2.2.1 60 ∧ True)))))
set_option maxHeartbeats 4000000 in
set_option maxRecDepth 100000 in
theorem c_X10_type (l : Launch) (G : GG) (dh0 : Nat) (dh1 : Nat) (dh2 : Nat) (dh3 : Nat) (dh4 : Nat) (dh5 : Nat) (dh6 : Nat) (dh7 : Nat) (sz : Nat) (d : MoV) (i : Int32) (hok : ok_X10_type d i) : wMet l yX10_type cX10_type 2 (some .int) 2 0 0 G (fl [wMo G dh0 dh1 dh2 dh3 dh4 dh5 dh6 dh7 d]) [.ref dh0, .int i] sz (fun u : Int32 × MoV => some (.int u.1)) (fun u : Int32 × MoV => u = f_X10_type d i) (fun u : Int32 × MoV => fl [wMo G dh0 dh1 dh2 dh3 dh4 dh5 dh6 dh7 u.2]) := by
  refine w_start (by decide +kernel) (Nat.le_of_ble_eq_true rfl) ?_
  intro p e s m below meth c A hx hb hr hml hts hown hlk hin hP hD hA hK hST ls hl
  have hS : va_S A s.heap s.heap [] := va_S.rf
  have hown : s.vm.findClass RX10 = some m.cls := hown
  have hl : lv_has ls 2 [(0, .ref dh0), (1, .int i)] := hl
  have hF : f_X10_type d i = (if (f_X10_isIn i (32 : Int32) (126 : Int32)) = (0 : Int32) then (let u_15 : MoV := (f_X10_isThrown d (1 : Int32) (1 : Int32)); ((0 : Int32), u_15)) else (let u_4 : MoV := (f_X10_isThrown d (0 : Int32) (1 : Int32)); (if u_4.2.2.2.2.2.2.2.2.2.2.2.2.2.2.1 = (60 : Int32) then (let u_12 : MoV := (f_X10_isThrown u_4 (1 : Int32) (2 : Int32)); ((0 : Int32), u_12)) else (let u_8 : MoV := (f_X10_isThrown u_4 (0 : Int32) (2 : Int32)); ((u_8.2.2.2.2.2.2.2.2.2.2.2.2.2.2.1 + (1 : Int32)), (mo14 (mo12 u_8 (upd u_8.2.2.2.2.2.2.2.2.2.2.2.2.1 u_8.2.2.2.2.2.2.2.2.2.2.2.2.2.2.1.toNatClampNeg i)) (u_8.2.2.2.2.2.2.2.2.2.2.2.2.2.2.1 + (1 : Int32)))))))) := rfl
  have hok : (if (f_X10_isIn i (32 : Int32) (126 : Int32)) = (0 : Int32) then True else (let u_4 : MoV := (f_X10_isThrown d (0 : Int32) (1 : Int32)); (if u_4.2.2.2.2.2.2.2.2.2.2.2.2.2.2.1 = (60 : Int32) then True else (let u_8 : MoV := (f_X10_isThrown u_4 (0 : Int32) (2 : Int32)); (vp_in u_8.2.2.2.2.2.2.2.2.2.2.2.2.2.2.1 60 ∧ True))))) := hok
  refine lv_aload_n hx hb dX10_type_0 rfl (lv_at hl 0 rfl) ?_
  refine lv_iload_n hx hb dX10_type_1 rfl (lv_at hl 1 rfl) ?_
  refine lv_bipush (v := (32 : Int32)) hx hb dX10_type_2 (by decide) ?_
  refine lv_bipush (v := (126 : Int32)) hx hb dX10_type_4 (by decide) ?_
  refine r_S (own := RX10) (v := (some (.int (f_X10_isIn i (32 : Int32) (126 : Int32))))) (st1 := [.int (f_X10_isIn i (32 : Int32) (126 : Int32)), .ref dh0]) (As := [.int i, .int (32 : Int32), .int (126 : Int32)]) (rest := [.ref dh0]) (c_X10_isIn l G i (32 : Int32) (126 : Int32)) ⟨hx, hb, hml, hown, hts⟩ g_X10_48 hds_X10_isIn hK hST hS hP [] rfl ⟨Nat.le_of_ble_eq_true rfl, Nat.le_of_ble_eq_true rfl⟩ ⟨Nat.le_of_ble_eq_true rfl, Nat.le_of_ble_eq_true rfl⟩ rfl hl.1 rfl (Nat.le_of_ble_eq_true rfl) dX10_type_6 rfl (fun b_1 => ?_)
  refine lv_if_ne (tgt := 16) hx hb dX10_type_9 (by decide) (fun c_2 => ?_) (fun c_2 => ?_)
  · have hF := hF.trans (if_neg c_2)
    have hok := Eq.mp (if_neg c_2) hok
    refine lv_iconst (v := (0 : Int32)) hx hb dX10_type_16 (by decide) ?_
    refine lv_iconst (v := (1 : Int32)) hx hb dX10_type_17 (by decide) ?_
    refine w_V (own := RX10) (cs := [wMo G dh0 dh1 dh2 dh3 dh4 dh5 dh6 dh7 d]) (rs := []) (As := [.int (0 : Int32), .int (1 : Int32)]) (rest := []) (c_X10_isThrown l G dh0 dh1 dh2 dh3 dh4 dh5 dh6 dh7 s.heap.size d (0 : Int32) (1 : Int32) (rfl)) ⟨hx, hb, hml, hown, hts⟩ g_X10_63 hdv_X10_isThrown hK hST hS hP hD hA [0] [] rfl rfl rfl (k0 := 0) rfl rfl rfl ⟨Nat.le_of_ble_eq_true rfl, Nat.le_of_ble_eq_true rfl⟩ ⟨Nat.le_of_ble_eq_true rfl, Nat.le_of_ble_eq_true rfl⟩ rfl hl.1 rfl (Nat.le_of_ble_eq_true rfl) dX10_type_18 (fun u_4 H locs huu hP hD hS => ?_)
    have eu_4 := huu
    have hP : va_P G.1 vwCl (fl [wMo G dh0 dh1 dh2 dh3 dh4 dh5 dh6 dh7 u_4]) H := hP
    have hD : va_D A (fl [wMo G dh0 dh1 dh2 dh3 dh4 dh5 dh6 dh7 u_4]) := hD
    refine W.eq (g2 := F0 m 21 ls [.int (0 : Int32)]) rfl ?_
    have hF : f_X10_type d i = (if u_4.2.2.2.2.2.2.2.2.2.2.2.2.2.2.1 = (60 : Int32) then (let u_12 : MoV := (f_X10_isThrown u_4 (1 : Int32) (2 : Int32)); ((0 : Int32), u_12)) else (let u_8 : MoV := (f_X10_isThrown u_4 (0 : Int32) (2 : Int32)); ((u_8.2.2.2.2.2.2.2.2.2.2.2.2.2.2.1 + (1 : Int32)), (mo14 (mo12 u_8 (upd u_8.2.2.2.2.2.2.2.2.2.2.2.2.1 u_8.2.2.2.2.2.2.2.2.2.2.2.2.2.2.1.toNatClampNeg i)) (u_8.2.2.2.2.2.2.2.2.2.2.2.2.2.2.1 + (1 : Int32)))))) := by subst eu_4; exact hF
    have hok : (if u_4.2.2.2.2.2.2.2.2.2.2.2.2.2.2.1 = (60 : Int32) then True else (let u_8 : MoV := (f_X10_isThrown u_4 (0 : Int32) (2 : Int32)); (vp_in u_8.2.2.2.2.2.2.2.2.2.2.2.2.2.2.1 60 ∧ True))) := by subst eu_4; exact hok
    refine lv_if_ne (tgt := 46) hx hb dX10_type_21 (by decide) (fun c_5 => ?_) (fun c_5 => ?_)
    · exact absurd c_5 (by decide)
    · refine lv_aload_n hx hb dX10_type_24 rfl (lv_at hl 0 rfl) ?_
      refine lv_aload_n hx hb dX10_type_25 rfl (lv_at hl 0 rfl) ?_
      refine va_get (D := G.1) (ci := 12) (v := .int u_4.2.2.2.2.2.2.2.2.2.2.2.2.2.2.1) (C := RX10) (T := TX10) (N := 17) hx hb hts uws_X10 hown hK hP 0 rfl rfl 14 (by decide) (hts _ u_1694) (fun _ h9 => h9) rfl dX10_type_26 ?_
      refine lv_bipush (v := (60 : Int32)) hx hb dX10_type_29 (by decide) ?_
      refine lv_icmp_ne (tgt := 38) hx hb dX10_type_31 (by decide) (fun c_6 => ?_) (fun c_6 => ?_)
      · have hF := hF.trans (if_neg c_6)
        have hok := Eq.mp (if_neg c_6) hok
        refine lv_iconst (v := (0 : Int32)) hx hb dX10_type_38 (by decide) ?_
        refine lv_iconst (v := (2 : Int32)) hx hb dX10_type_39 (by decide) ?_
        refine w_V (own := RX10) (cs := [wMo G dh0 dh1 dh2 dh3 dh4 dh5 dh6 dh7 u_4]) (rs := []) (As := [.int (0 : Int32), .int (2 : Int32)]) (rest := []) (c_X10_isThrown l G dh0 dh1 dh2 dh3 dh4 dh5 dh6 dh7 H.size u_4 (0 : Int32) (2 : Int32) (rfl)) ⟨hx, hb, hml, hown, hts⟩ g_X10_63 hdv_X10_isThrown hK hST hS hP hD hA [0] [] rfl rfl rfl (k0 := 0) rfl rfl rfl ⟨Nat.le_of_ble_eq_true rfl, Nat.le_of_ble_eq_true rfl⟩ ⟨Nat.le_of_ble_eq_true rfl, Nat.le_of_ble_eq_true rfl⟩ rfl hl.1 rfl (Nat.le_of_ble_eq_true rfl) dX10_type_40 (fun u_8 H locs huu hP hD hS => ?_)
        have eu_8 := huu
        have hP : va_P G.1 vwCl (fl [wMo G dh0 dh1 dh2 dh3 dh4 dh5 dh6 dh7 u_8]) H := hP
        have hD : va_D A (fl [wMo G dh0 dh1 dh2 dh3 dh4 dh5 dh6 dh7 u_8]) := hD
        refine W.eq (g2 := F0 m 43 ls [.int (0 : Int32)]) rfl ?_
        have hF : f_X10_type d i = ((u_8.2.2.2.2.2.2.2.2.2.2.2.2.2.2.1 + (1 : Int32)), (mo14 (mo12 u_8 (upd u_8.2.2.2.2.2.2.2.2.2.2.2.2.1 u_8.2.2.2.2.2.2.2.2.2.2.2.2.2.2.1.toNatClampNeg i)) (u_8.2.2.2.2.2.2.2.2.2.2.2.2.2.2.1 + (1 : Int32)))) := by subst eu_8; exact hF
        have hok : (vp_in u_8.2.2.2.2.2.2.2.2.2.2.2.2.2.2.1 60 ∧ True) := by subst eu_8; exact hok
        refine lv_if_eq (tgt := 48) hx hb dX10_type_43 (by decide) (fun c_9 => ?_) (fun c_9 => ?_)
        · refine lv_aload_n hx hb dX10_type_48 rfl (lv_at hl 0 rfl) ?_
          refine va_get (D := G.1) (ci := 12) (v := .ref dh6) (C := RX10) (T := TX10) (N := 17) hx hb hts uws_X10 hown hK hP 0 rfl rfl 12 (by decide) (hts _ u_1692) (fun _ h9 => h9) rfl dX10_type_49 ?_
          refine lv_aload_n hx hb dX10_type_52 rfl (lv_at hl 0 rfl) ?_
          refine va_get (D := G.1) (ci := 12) (v := .int u_8.2.2.2.2.2.2.2.2.2.2.2.2.2.2.1) (C := RX10) (T := TX10) (N := 17) hx hb hts uws_X10 hown hK hP 0 rfl rfl 14 (by decide) (hts _ u_1694) (fun _ h9 => h9) rfl dX10_type_53 ?_
          refine lv_iload_n hx hb dX10_type_56 rfl (lv_at hl 1 rfl) ?_
          have h_10 := hok.1
          have hok := hok.2
          refine va_iast hx hb hK hP hD hS 6 0 rfl rfl h_10 dX10_type_57 (fun H locs hP hD hS => ?_)
          have hP : va_P G.1 vwCl (fl [wMo G dh0 dh1 dh2 dh3 dh4 dh5 dh6 dh7 (mo12 u_8 (upd u_8.2.2.2.2.2.2.2.2.2.2.2.2.1 u_8.2.2.2.2.2.2.2.2.2.2.2.2.2.2.1.toNatClampNeg i))]) H := hP
          have hD : va_D A (fl [wMo G dh0 dh1 dh2 dh3 dh4 dh5 dh6 dh7 (mo12 u_8 (upd u_8.2.2.2.2.2.2.2.2.2.2.2.2.1 u_8.2.2.2.2.2.2.2.2.2.2.2.2.2.2.1.toNatClampNeg i))]) := hD
          refine lv_aload_n hx hb dX10_type_58 rfl (lv_at hl 0 rfl) ?_
          refine lv_dup hx hb dX10_type_59 rfl ?_
          refine va_get (D := G.1) (ci := 12) (v := .int u_8.2.2.2.2.2.2.2.2.2.2.2.2.2.2.1) (C := RX10) (T := TX10) (N := 17) hx hb hts uws_X10 hown hK hP 0 rfl rfl 14 (by decide) (hts _ u_1694) (fun _ h9 => h9) rfl dX10_type_60 ?_
          refine lv_iconst (v := (1 : Int32)) hx hb dX10_type_63 (by decide) ?_
          refine lv_iadd hx hb dX10_type_64 ?_
          refine va_put (D := G.1) (ci := 12) (v := .int (u_8.2.2.2.2.2.2.2.2.2.2.2.2.2.2.1 + (1 : Int32))) (ty := .int) (C := RX10) (T := TX10) (N := 17) hx hb hts uws_X10 tyX10 tyX10_ok nmX10 hown hK hP hD hS 0 rfl rfl 14 (by decide) (hts _ u_1694) (fun _ h9 => h9) rfl (by decide +kernel) rfl rfl (Nat.le_of_ble_eq_true rfl) dX10_type_65 (fun H locs hP hD hS => ?_)
          have hP : va_P G.1 vwCl (fl [wMo G dh0 dh1 dh2 dh3 dh4 dh5 dh6 dh7 (mo14 (mo12 u_8 (upd u_8.2.2.2.2.2.2.2.2.2.2.2.2.1 u_8.2.2.2.2.2.2.2.2.2.2.2.2.2.2.1.toNatClampNeg i)) (u_8.2.2.2.2.2.2.2.2.2.2.2.2.2.2.1 + (1 : Int32)))]) H := hP
          have hD : va_D A (fl [wMo G dh0 dh1 dh2 dh3 dh4 dh5 dh6 dh7 (mo14 (mo12 u_8 (upd u_8.2.2.2.2.2.2.2.2.2.2.2.2.1 u_8.2.2.2.2.2.2.2.2.2.2.2.2.2.2.1.toNatClampNeg i)) (u_8.2.2.2.2.2.2.2.2.2.2.2.2.2.2.1 + (1 : Int32)))]) := hD
          refine lv_aload_n hx hb dX10_type_68 rfl (lv_at hl 0 rfl) ?_
          refine va_get (D := G.1) (ci := 12) (v := .int (u_8.2.2.2.2.2.2.2.2.2.2.2.2.2.2.1 + (1 : Int32))) (C := RX10) (T := TX10) (N := 17) hx hb hts uws_X10 hown hK hP 0 rfl rfl 14 (by decide) (hts _ u_1694) (fun _ h9 => h9) rfl dX10_type_69 ?_
          exact w_ret (u := ((u_8.2.2.2.2.2.2.2.2.2.2.2.2.2.2.1 + (1 : Int32)), (mo14 (mo12 u_8 (upd u_8.2.2.2.2.2.2.2.2.2.2.2.2.1 u_8.2.2.2.2.2.2.2.2.2.2.2.2.2.2.1.toNatClampNeg i)) (u_8.2.2.2.2.2.2.2.2.2.2.2.2.2.2.1 + (1 : Int32))))) hx hb hr hlk rfl hS rfl hF.symm hP hD (Nat.le_of_ble_eq_true rfl) (Nat.le_of_ble_eq_true rfl) dX10_type_72
        · exact absurd c_9 (by decide)
      · have hF := hF.trans (if_pos c_6)
        have hok := Eq.mp (if_pos c_6) hok
        refine lv_iconst (v := (1 : Int32)) hx hb dX10_type_34 (by decide) ?_
        refine lv_goto (tgt := 39) hx hb dX10_type_35 (by decide) ?_
        refine lv_iconst (v := (2 : Int32)) hx hb dX10_type_39 (by decide) ?_
        refine w_V (own := RX10) (cs := [wMo G dh0 dh1 dh2 dh3 dh4 dh5 dh6 dh7 u_4]) (rs := []) (As := [.int (1 : Int32), .int (2 : Int32)]) (rest := []) (c_X10_isThrown l G dh0 dh1 dh2 dh3 dh4 dh5 dh6 dh7 H.size u_4 (1 : Int32) (2 : Int32) (rfl)) ⟨hx, hb, hml, hown, hts⟩ g_X10_63 hdv_X10_isThrown hK hST hS hP hD hA [0] [] rfl rfl rfl (k0 := 0) rfl rfl rfl ⟨Nat.le_of_ble_eq_true rfl, Nat.le_of_ble_eq_true rfl⟩ ⟨Nat.le_of_ble_eq_true rfl, Nat.le_of_ble_eq_true rfl⟩ rfl hl.1 rfl (Nat.le_of_ble_eq_true rfl) dX10_type_40 (fun u_12 H locs huu hP hD hS => ?_)
        have eu_12 := huu
        have hP : va_P G.1 vwCl (fl [wMo G dh0 dh1 dh2 dh3 dh4 dh5 dh6 dh7 u_12]) H := hP
        have hD : va_D A (fl [wMo G dh0 dh1 dh2 dh3 dh4 dh5 dh6 dh7 u_12]) := hD
        refine W.eq (g2 := F0 m 43 ls [.int (1 : Int32)]) rfl ?_
        have hF : f_X10_type d i = ((0 : Int32), u_12) := by subst eu_12; exact hF
        refine lv_if_eq (tgt := 48) hx hb dX10_type_43 (by decide) (fun c_13 => ?_) (fun c_13 => ?_)
        · exact absurd c_13 (by decide)
        · refine lv_iconst (v := (0 : Int32)) hx hb dX10_type_46 (by decide) ?_
          exact w_ret (u := ((0 : Int32), u_12)) hx hb hr hlk rfl hS rfl hF.symm hP hD (Nat.le_of_ble_eq_true rfl) (Nat.le_of_ble_eq_true rfl) dX10_type_47
  · have hF := hF.trans (if_pos c_2)
    have hok := Eq.mp (if_pos c_2) hok
    refine lv_iconst (v := (1 : Int32)) hx hb dX10_type_12 (by decide) ?_
    refine lv_goto (tgt := 17) hx hb dX10_type_13 (by decide) ?_
    refine lv_iconst (v := (1 : Int32)) hx hb dX10_type_17 (by decide) ?_
    refine w_V (own := RX10) (cs := [wMo G dh0 dh1 dh2 dh3 dh4 dh5 dh6 dh7 d]) (rs := []) (As := [.int (1 : Int32), .int (1 : Int32)]) (rest := []) (c_X10_isThrown l G dh0 dh1 dh2 dh3 dh4 dh5 dh6 dh7 s.heap.size d (1 : Int32) (1 : Int32) (rfl)) ⟨hx, hb, hml, hown, hts⟩ g_X10_63 hdv_X10_isThrown hK hST hS hP hD hA [0] [] rfl rfl rfl (k0 := 0) rfl rfl rfl ⟨Nat.le_of_ble_eq_true rfl, Nat.le_of_ble_eq_true rfl⟩ ⟨Nat.le_of_ble_eq_true rfl, Nat.le_of_ble_eq_true rfl⟩ rfl hl.1 rfl (Nat.le_of_ble_eq_true rfl) dX10_type_18 (fun u_15 H locs huu hP hD hS => ?_)
    have eu_15 := huu
    have hP : va_P G.1 vwCl (fl [wMo G dh0 dh1 dh2 dh3 dh4 dh5 dh6 dh7 u_15]) H := hP
    have hD : va_D A (fl [wMo G dh0 dh1 dh2 dh3 dh4 dh5 dh6 dh7 u_15]) := hD
    refine W.eq (g2 := F0 m 21 ls [.int (1 : Int32)]) rfl ?_
    have hF : f_X10_type d i = ((0 : Int32), u_15) := by subst eu_15; exact hF
    refine lv_if_ne (tgt := 46) hx hb dX10_type_21 (by decide) (fun c_16 => ?_) (fun c_16 => ?_)
    · refine lv_iconst (v := (0 : Int32)) hx hb dX10_type_46 (by decide) ?_
      exact w_ret (u := ((0 : Int32), u_15)) hx hb hr hlk rfl hS rfl hF.symm hP hD (Nat.le_of_ble_eq_true rfl) (Nat.le_of_ble_eq_true rfl) dX10_type_47
    · exact absurd c_16 (by decide)
theorem dX10_sign_0 : decode cX10_sign 0 = .ok (.aload_n 0, 1) := by decide +kernel
theorem dX10_sign_1 : decode cX10_sign 1 = .ok (.getfield 179, 3) := by decide +kernel
theorem u_1695 : Cond.fieldLink RX10 179 "MoonlitDoorsModel" "here" "I" ∈ UW := uw 1695 (by decide +kernel) rfl
theorem dX10_sign_4 : decode cX10_sign 4 = .ok (.aload_n 0, 1) := by decide +kernel
theorem dX10_sign_5 : decode cX10_sign 5 = .ok (.getfield 176, 3) := by decide +kernel
theorem dX10_sign_8 : decode cX10_sign 8 = .ok (.if_icmp .ge 15, 3) := by decide +kernel
theorem dX10_sign_23 : decode cX10_sign 23 = .ok (.iconst (-1), 1) := by decide +kernel
theorem dX10_sign_24 : decode cX10_sign 24 = .ok (.ireturn, 1) := by decide +kernel
theorem dX10_sign_11 : decode cX10_sign 11 = .ok (.aload_n 0, 1) := by decide +kernel
theorem dX10_sign_12 : decode cX10_sign 12 = .ok (.getfield 32, 3) := by decide +kernel
theorem dX10_sign_15 : decode cX10_sign 15 = .ok (.aload_n 0, 1) := by decide +kernel
theorem dX10_sign_16 : decode cX10_sign 16 = .ok (.getfield 179, 3) := by decide +kernel
theorem dX10_sign_19 : decode cX10_sign 19 = .ok (.iaload, 1) := by decide +kernel
theorem dX10_sign_20 : decode cX10_sign 20 = .ok (.goto 4, 3) := by decide +kernel
def f_X10_sign (d : MoV) : Int32 := (if d.2.2.2.2.2.2.2.2.2.2.2.2.2.2.1 ≤ d.2.2.2.2.2.2.2.2.2.2.2.2.2.2.2.1 then (-1 : Int32) else (d.2.2.2.2.2.2.2.2.2.2.2.2.1 d.2.2.2.2.2.2.2.2.2.2.2.2.2.2.2.1.toNatClampNeg))
def ok_X10_sign (d : MoV) : Prop := (if d.2.2.2.2.2.2.2.2.2.2.2.2.2.2.1 ≤ d.2.2.2.2.2.2.2.2.2.2.2.2.2.2.2.1 then True else (vp_in d.2.2.2.2.2.2.2.2.2.2.2.2.2.2.2.1 60 ∧ True))
set_option maxHeartbeats 4000000 in
set_option maxRecDepth 100000 in
theorem c_X10_sign (l : Launch) (G : GG) (dh0 : Nat) (dh1 : Nat) (dh2 : Nat) (dh3 : Nat) (dh4 : Nat) (dh5 : Nat) (dh6 : Nat) (dh7 : Nat) (d : MoV) (hok : ok_X10_sign d) : rMet l yX10_sign cX10_sign 1 (some .int) 1 G (fl [wMo G dh0 dh1 dh2 dh3 dh4 dh5 dh6 dh7 d]) [.ref dh0] (some (.int (f_X10_sign d))) (True) := by
  refine r_start (by decide +kernel) (Nat.le_of_ble_eq_true rfl) ?_
  intro p e s m below meth c hx hb hr hml hts hown hlk hP hK hST ls hl
  have hS : va_S (fun _ => False) s.heap s.heap [] := va_S.rf
  have hown : s.vm.findClass RX10 = some m.cls := hown
  have hl : lv_has ls 1 [(0, .ref dh0)] := hl
  have hF : f_X10_sign d = (if d.2.2.2.2.2.2.2.2.2.2.2.2.2.2.1 ≤ d.2.2.2.2.2.2.2.2.2.2.2.2.2.2.2.1 then (-1 : Int32) else (d.2.2.2.2.2.2.2.2.2.2.2.2.1 d.2.2.2.2.2.2.2.2.2.2.2.2.2.2.2.1.toNatClampNeg)) := rfl
  have hok : (if d.2.2.2.2.2.2.2.2.2.2.2.2.2.2.1 ≤ d.2.2.2.2.2.2.2.2.2.2.2.2.2.2.2.1 then True else (vp_in d.2.2.2.2.2.2.2.2.2.2.2.2.2.2.2.1 60 ∧ True)) := hok
  refine lv_aload_n hx hb dX10_sign_0 rfl (lv_at hl 0 rfl) ?_
  refine va_get (D := G.1) (ci := 12) (v := .int d.2.2.2.2.2.2.2.2.2.2.2.2.2.2.2.1) (C := RX10) (T := TX10) (N := 17) hx hb hts uws_X10 hown hK hP 0 rfl rfl 15 (by decide) (hts _ u_1695) (fun _ h9 => h9) rfl dX10_sign_1 ?_
  refine lv_aload_n hx hb dX10_sign_4 rfl (lv_at hl 0 rfl) ?_
  refine va_get (D := G.1) (ci := 12) (v := .int d.2.2.2.2.2.2.2.2.2.2.2.2.2.2.1) (C := RX10) (T := TX10) (N := 17) hx hb hts uws_X10 hown hK hP 0 rfl rfl 14 (by decide) (hts _ u_1694) (fun _ h9 => h9) rfl dX10_sign_5 ?_
  refine lv_icmp_ge (tgt := 23) hx hb dX10_sign_8 (by decide) (fun c_1 => ?_) (fun c_1 => ?_)
  · have hF := hF.trans (if_pos c_1)
    have hok := Eq.mp (if_pos c_1) hok
    refine lv_iconst (v := (-1 : Int32)) hx hb dX10_sign_23 (by decide) ?_
    exact r_ret hx hb hr hlk rfl (by rw [hF]) trivial dX10_sign_24
  · have hF := hF.trans (if_neg c_1)
    have hok := Eq.mp (if_neg c_1) hok
    refine lv_aload_n hx hb dX10_sign_11 rfl (lv_at hl 0 rfl) ?_
    refine va_get (D := G.1) (ci := 12) (v := .ref dh6) (C := RX10) (T := TX10) (N := 17) hx hb hts uws_X10 hown hK hP 0 rfl rfl 12 (by decide) (hts _ u_1692) (fun _ h9 => h9) rfl dX10_sign_12 ?_
    refine lv_aload_n hx hb dX10_sign_15 rfl (lv_at hl 0 rfl) ?_
    refine va_get (D := G.1) (ci := 12) (v := .int d.2.2.2.2.2.2.2.2.2.2.2.2.2.2.2.1) (C := RX10) (T := TX10) (N := 17) hx hb hts uws_X10 hown hK hP 0 rfl rfl 15 (by decide) (hts _ u_1695) (fun _ h9 => h9) rfl dX10_sign_16 ?_
    have h_2 := hok.1
    have hok := hok.2
    refine va_iald hx hb hK hP 6 0 rfl rfl h_2 dX10_sign_19 ?_
    refine lv_goto (tgt := 24) hx hb dX10_sign_20 (by decide) ?_
    exact r_ret hx hb hr hlk rfl (by rw [hF]) trivial dX10_sign_24
theorem dX10_isSign_0 : decode cX10_isSign 0 = .ok (.aload_n 0, 1) := by decide +kernel
theorem dX10_isSign_1 : decode cX10_isSign 1 = .ok (.invokevirtual 182, 3) := by decide +kernel
theorem u_2076 : Cond.methodLink RX10 182 yX10_sign ∈ UW := uw 2076 (by decide +kernel) rfl
theorem u_2078 : Cond.instanceMethod yX10_sign ∈ UW := uw 2078 (by decide +kernel) rfl
theorem u_55 : Cond.selects RX10 yX10_sign yX10_sign ∈ UW := uw 55 (by decide +kernel) rfl
theorem u_2079 : Cond.code yX10_sign cX10_sign 1 (some .int) ∈ UW := uw 2079 (by decide +kernel) rfl
theorem g_X10_182 : GoodIn UW (wsV RX10 182 RX10 yX10_sign (wsU yX10_sign cX10_sign 1 (some .int))) := gV u_2076 u_2078 u_55 u_77 u_2079
theorem hdv_X10_sign : yX10_sign.cls = RX10 ∧ yX10_sign.cls ≠ "java/lang/invoke/MethodHandle" ∧ yX10_sign.cls ≠ "java/lang/invoke/VarHandle" ∧ (parseMethodDescriptor yX10_sign.desc).map (fun d => d.parameters.length) = some 0 := by decide +kernel
theorem dX10_isSign_4 : decode cX10_isSign 4 = .ok (.iload_n 1, 1) := by decide +kernel
theorem dX10_isSign_5 : decode cX10_isSign 5 = .ok (.if_icmp .ne 7, 3) := by decide +kernel
theorem dX10_isSign_12 : decode cX10_isSign 12 = .ok (.iconst 0, 1) := by decide +kernel
theorem dX10_isSign_13 : decode cX10_isSign 13 = .ok (.istore_n 2, 1) := by decide +kernel
theorem dX10_isSign_14 : decode cX10_isSign 14 = .ok (.aload_n 0, 1) := by decide +kernel
theorem dX10_isSign_15 : decode cX10_isSign 15 = .ok (.dup, 1) := by decide +kernel
theorem dX10_isSign_16 : decode cX10_isSign 16 = .ok (.getfield 179, 3) := by decide +kernel
theorem dX10_isSign_19 : decode cX10_isSign 19 = .ok (.iload_n 2, 1) := by decide +kernel
theorem dX10_isSign_20 : decode cX10_isSign 20 = .ok (.ifCond .eq 7, 3) := by decide +kernel
theorem dX10_isSign_27 : decode cX10_isSign 27 = .ok (.iconst 0, 1) := by decide +kernel
theorem dX10_isSign_28 : decode cX10_isSign 28 = .ok (.iadd, 1) := by decide +kernel
theorem dX10_isSign_29 : decode cX10_isSign 29 = .ok (.putfield 179, 3) := by decide +kernel
theorem dX10_isSign_32 : decode cX10_isSign 32 = .ok (.iload_n 2, 1) := by decide +kernel
theorem dX10_isSign_33 : decode cX10_isSign 33 = .ok (.ireturn, 1) := by decide +kernel
theorem dX10_isSign_8 : decode cX10_isSign 8 = .ok (.iconst 1, 1) := by decide +kernel
theorem dX10_isSign_9 : decode cX10_isSign 9 = .ok (.goto 4, 3) := by decide +kernel
theorem dX10_isSign_23 : decode cX10_isSign 23 = .ok (.iconst 1, 1) := by decide +kernel
theorem dX10_isSign_24 : decode cX10_isSign 24 = .ok (.goto 4, 3) := by decide +kernel
def f_X10_isSign (d : MoV) (i : Int32) : Int32 × MoV := (if (f_X10_sign d) = i then ((1 : Int32), (mo15 d (d.2.2.2.2.2.2.2.2.2.2.2.2.2.2.2.1 + (1 : Int32)))) else ((0 : Int32), (mo15 d (d.2.2.2.2.2.2.2.2.2.2.2.2.2.2.2.1 + (0 : Int32)))))
def ok_X10_isSign (d : MoV) (i : Int32) : Prop := (ok_X10_sign d ∧ True)
set_option maxHeartbeats 4000000 in
set_option maxRecDepth 100000 in
theorem c_X10_isSign (l : Launch) (G : GG) (dh0 : Nat) (dh1 : Nat) (dh2 : Nat) (dh3 : Nat) (dh4 : Nat) (dh5 : Nat) (dh6 : Nat) (dh7 : Nat) (sz : Nat) (d : MoV) (i : Int32) (hok : ok_X10_isSign d i) : wMet l yX10_isSign cX10_isSign 3 (some .boolean) 2 0 0 G (fl [wMo G dh0 dh1 dh2 dh3 dh4 dh5 dh6 dh7 d]) [.ref dh0, .int i] sz (fun u : Int32 × MoV => some (.int u.1)) (fun u : Int32 × MoV => u = f_X10_isSign d i ∧ narrow .boolean (.int ((f_X10_isSign d i).1)) = .int ((f_X10_isSign d i).1)) (fun u : Int32 × MoV => fl [wMo G dh0 dh1 dh2 dh3 dh4 dh5 dh6 dh7 u.2]) := by
  refine w_start (by decide +kernel) (Nat.le_of_ble_eq_true rfl) ?_
  intro p e s m below meth c A hx hb hr hml hts hown hlk hin hP hD hA hK hST ls hl
  have hS : va_S A s.heap s.heap [] := va_S.rf
  have hown : s.vm.findClass RX10 = some m.cls := hown
  have hl : lv_has ls 3 [(0, .ref dh0), (1, .int i)] := hl
  have hF : f_X10_isSign d i = (if (f_X10_sign d) = i then ((1 : Int32), (mo15 d (d.2.2.2.2.2.2.2.2.2.2.2.2.2.2.2.1 + (1 : Int32)))) else ((0 : Int32), (mo15 d (d.2.2.2.2.2.2.2.2.2.2.2.2.2.2.2.1 + (0 : Int32))))) := rfl
  have hok : (ok_X10_sign d ∧ True) := hok
  refine lv_aload_n hx hb dX10_isSign_0 rfl (lv_at hl 0 rfl) ?_
  have k_1 := hok.1
  have hok := hok.2
  refine r_V (own := RX10) (v := (some (.int (f_X10_sign d)))) (st1 := [.int (f_X10_sign d)]) (As := []) (rest := []) (c_X10_sign l G dh0 dh1 dh2 dh3 dh4 dh5 dh6 dh7 d k_1) ⟨hx, hb, hml, hown, hts⟩ g_X10_182 hdv_X10_sign hK hST hS hP [0, 1, 2, 3, 4, 5, 6, 7] rfl (k0 := 0) rfl rfl rfl ⟨Nat.le_of_ble_eq_true rfl, Nat.le_of_ble_eq_true rfl⟩ ⟨Nat.le_of_ble_eq_true rfl, Nat.le_of_ble_eq_true rfl⟩ rfl hl.1 rfl (Nat.le_of_ble_eq_true rfl) dX10_isSign_1 rfl (fun b_2 => ?_)
  refine lv_iload_n hx hb dX10_isSign_4 rfl (lv_at hl 1 rfl) ?_
  refine lv_icmp_ne (tgt := 12) hx hb dX10_isSign_5 (by decide) (fun c_3 => ?_) (fun c_3 => ?_)
  · have hF := hF.trans (if_neg c_3)
    refine lv_iconst (v := (0 : Int32)) hx hb dX10_isSign_12 (by decide) ?_
    refine lv_istore_n (lv' := [(2, .int (0 : Int32)), (0, .ref dh0), (1, .int i)]) hx hb dX10_isSign_13 rfl hl (by decide) rfl (fun ls hl => ?_)
    refine lv_aload_n hx hb dX10_isSign_14 rfl (lv_at hl 1 rfl) ?_
    refine lv_dup hx hb dX10_isSign_15 rfl ?_
    refine va_get (D := G.1) (ci := 12) (v := .int d.2.2.2.2.2.2.2.2.2.2.2.2.2.2.2.1) (C := RX10) (T := TX10) (N := 17) hx hb hts uws_X10 hown hK hP 0 rfl rfl 15 (by decide) (hts _ u_1695) (fun _ h9 => h9) rfl dX10_isSign_16 ?_
    refine lv_iload_n hx hb dX10_isSign_19 rfl (lv_at hl 0 rfl) ?_
    refine lv_if_eq (tgt := 27) hx hb dX10_isSign_20 (by decide) (fun c_4 => ?_) (fun c_4 => ?_)
    · refine lv_iconst (v := (0 : Int32)) hx hb dX10_isSign_27 (by decide) ?_
      refine lv_iadd hx hb dX10_isSign_28 ?_
      refine va_put (D := G.1) (ci := 12) (v := .int (d.2.2.2.2.2.2.2.2.2.2.2.2.2.2.2.1 + (0 : Int32))) (ty := .int) (C := RX10) (T := TX10) (N := 17) hx hb hts uws_X10 tyX10 tyX10_ok nmX10 hown hK hP hD hS 0 rfl rfl 15 (by decide) (hts _ u_1695) (fun _ h9 => h9) rfl (by decide +kernel) rfl rfl (Nat.le_of_ble_eq_true rfl) dX10_isSign_29 (fun H locs hP hD hS => ?_)
      have hP : va_P G.1 vwCl (fl [wMo G dh0 dh1 dh2 dh3 dh4 dh5 dh6 dh7 (mo15 d (d.2.2.2.2.2.2.2.2.2.2.2.2.2.2.2.1 + (0 : Int32)))]) H := hP
      have hD : va_D A (fl [wMo G dh0 dh1 dh2 dh3 dh4 dh5 dh6 dh7 (mo15 d (d.2.2.2.2.2.2.2.2.2.2.2.2.2.2.2.1 + (0 : Int32)))]) := hD
      refine lv_iload_n hx hb dX10_isSign_32 rfl (lv_at hl 0 rfl) ?_
      exact w_ret (u := ((0 : Int32), (mo15 d (d.2.2.2.2.2.2.2.2.2.2.2.2.2.2.2.1 + (0 : Int32))))) hx hb hr hlk rfl hS rfl ⟨hF.symm, (by rw [hF]; exact (rfl : narrow .boolean (.int (0 : Int32)) = .int (0 : Int32)))⟩ hP hD (Nat.le_of_ble_eq_true rfl) (Nat.le_of_ble_eq_true rfl) dX10_isSign_33
    · exact absurd c_4 (by decide)
  · have hF := hF.trans (if_pos c_3)
    refine lv_iconst (v := (1 : Int32)) hx hb dX10_isSign_8 (by decide) ?_
    refine lv_goto (tgt := 13) hx hb dX10_isSign_9 (by decide) ?_
    refine lv_istore_n (lv' := [(2, .int (1 : Int32)), (0, .ref dh0), (1, .int i)]) hx hb dX10_isSign_13 rfl hl (by decide) rfl (fun ls hl => ?_)
    refine lv_aload_n hx hb dX10_isSign_14 rfl (lv_at hl 1 rfl) ?_
    refine lv_dup hx hb dX10_isSign_15 rfl ?_
    refine va_get (D := G.1) (ci := 12) (v := .int d.2.2.2.2.2.2.2.2.2.2.2.2.2.2.2.1) (C := RX10) (T := TX10) (N := 17) hx hb hts uws_X10 hown hK hP 0 rfl rfl 15 (by decide) (hts _ u_1695) (fun _ h9 => h9) rfl dX10_isSign_16 ?_
    refine lv_iload_n hx hb dX10_isSign_19 rfl (lv_at hl 0 rfl) ?_
    refine lv_if_eq (tgt := 27) hx hb dX10_isSign_20 (by decide) (fun c_5 => ?_) (fun c_5 => ?_)
    · exact absurd c_5 (by decide)
    · refine lv_iconst (v := (1 : Int32)) hx hb dX10_isSign_23 (by decide) ?_
      refine lv_goto (tgt := 28) hx hb dX10_isSign_24 (by decide) ?_
      refine lv_iadd hx hb dX10_isSign_28 ?_
      refine va_put (D := G.1) (ci := 12) (v := .int (d.2.2.2.2.2.2.2.2.2.2.2.2.2.2.2.1 + (1 : Int32))) (ty := .int) (C := RX10) (T := TX10) (N := 17) hx hb hts uws_X10 tyX10 tyX10_ok nmX10 hown hK hP hD hS 0 rfl rfl 15 (by decide) (hts _ u_1695) (fun _ h9 => h9) rfl (by decide +kernel) rfl rfl (Nat.le_of_ble_eq_true rfl) dX10_isSign_29 (fun H locs hP hD hS => ?_)
      have hP : va_P G.1 vwCl (fl [wMo G dh0 dh1 dh2 dh3 dh4 dh5 dh6 dh7 (mo15 d (d.2.2.2.2.2.2.2.2.2.2.2.2.2.2.2.1 + (1 : Int32)))]) H := hP
      have hD : va_D A (fl [wMo G dh0 dh1 dh2 dh3 dh4 dh5 dh6 dh7 (mo15 d (d.2.2.2.2.2.2.2.2.2.2.2.2.2.2.2.1 + (1 : Int32)))]) := hD
      refine lv_iload_n hx hb dX10_isSign_32 rfl (lv_at hl 0 rfl) ?_
      exact w_ret (u := ((1 : Int32), (mo15 d (d.2.2.2.2.2.2.2.2.2.2.2.2.2.2.2.1 + (1 : Int32))))) hx hb hr hlk rfl hS rfl ⟨hF.symm, (by rw [hF]; exact (rfl : narrow .boolean (.int (1 : Int32)) = .int (1 : Int32)))⟩ hP hD (Nat.le_of_ble_eq_true rfl) (Nat.le_of_ble_eq_true rfl) dX10_isSign_33
theorem dX10_isNumber_0 : decode cX10_isNumber 0 = .ok (.iconst 0, 1) := by decide +kernel
theorem dX10_isNumber_1 : decode cX10_isNumber 1 = .ok (.istore_n 3, 1) := by decide +kernel
theorem dX10_isNumber_2 : decode cX10_isNumber 2 = .ok (.iconst 0, 1) := by decide +kernel
theorem dX10_isNumber_3 : decode cX10_isNumber 3 = .ok (.istore 4, 2) := by decide +kernel
theorem dX10_isNumber_5 : decode cX10_isNumber 5 = .ok (.iload 4, 2) := by decide +kernel
theorem dX10_isNumber_7 : decode cX10_isNumber 7 = .ok (.iload_n 1, 1) := by decide +kernel
theorem dX10_isNumber_8 : decode cX10_isNumber 8 = .ok (.if_icmp .ge 46, 3) := by decide +kernel
theorem dX10_isNumber_54 : decode cX10_isNumber 54 = .ok (.aload_n 0, 1) := by decide +kernel
theorem dX10_isNumber_55 : decode cX10_isNumber 55 = .ok (.getfield 35, 3) := by decide +kernel
theorem u_1693 : Cond.fieldLink RX10 35 "MoonlitDoorsModel" "commands" "[I" ∈ UW := uw 1693 (by decide +kernel) rfl
theorem dX10_isNumber_58 : decode cX10_isNumber 58 = .ok (.iload_n 2, 1) := by decide +kernel
theorem dX10_isNumber_59 : decode cX10_isNumber 59 = .ok (.iload_n 3, 1) := by decide +kernel
theorem dX10_isNumber_60 : decode cX10_isNumber 60 = .ok (.iastore, 1) := by decide +kernel
theorem dX10_isNumber_61 : decode cX10_isNumber 61 = .ok (.iload 4, 2) := by decide +kernel
theorem dX10_isNumber_63 : decode cX10_isNumber 63 = .ok (.ifCond .le 7, 3) := by decide +kernel
theorem dX10_isNumber_70 : decode cX10_isNumber 70 = .ok (.iconst 0, 1) := by decide +kernel
theorem dX10_isNumber_71 : decode cX10_isNumber 71 = .ok (.ireturn, 1) := by decide +kernel
theorem dX10_isNumber_66 : decode cX10_isNumber 66 = .ok (.iconst 1, 1) := by decide +kernel
theorem dX10_isNumber_67 : decode cX10_isNumber 67 = .ok (.goto 4, 3) := by decide +kernel
theorem dX10_isNumber_11 : decode cX10_isNumber 11 = .ok (.aload_n 0, 1) := by decide +kernel
theorem dX10_isNumber_12 : decode cX10_isNumber 12 = .ok (.invokevirtual 182, 3) := by decide +kernel
theorem dX10_isNumber_15 : decode cX10_isNumber 15 = .ok (.bipush 48, 2) := by decide +kernel
theorem dX10_isNumber_17 : decode cX10_isNumber 17 = .ok (.bipush 57, 2) := by decide +kernel
theorem dX10_isNumber_19 : decode cX10_isNumber 19 = .ok (.invokestatic 48, 3) := by decide +kernel
theorem dX10_isNumber_22 : decode cX10_isNumber 22 = .ok (.ifCond .eq 32, 3) := by decide +kernel
theorem dX10_isNumber_25 : decode cX10_isNumber 25 = .ok (.bipush 10, 2) := by decide +kernel
theorem dX10_isNumber_27 : decode cX10_isNumber 27 = .ok (.iload_n 3, 1) := by decide +kernel
theorem dX10_isNumber_28 : decode cX10_isNumber 28 = .ok (.imul, 1) := by decide +kernel
theorem dX10_isNumber_29 : decode cX10_isNumber 29 = .ok (.aload_n 0, 1) := by decide +kernel
theorem dX10_isNumber_30 : decode cX10_isNumber 30 = .ok (.invokevirtual 182, 3) := by decide +kernel
theorem dX10_isNumber_33 : decode cX10_isNumber 33 = .ok (.iadd, 1) := by decide +kernel
theorem dX10_isNumber_34 : decode cX10_isNumber 34 = .ok (.bipush 48, 2) := by decide +kernel
theorem dX10_isNumber_36 : decode cX10_isNumber 36 = .ok (.isub, 1) := by decide +kernel
theorem dX10_isNumber_37 : decode cX10_isNumber 37 = .ok (.istore_n 3, 1) := by decide +kernel
theorem dX10_isNumber_38 : decode cX10_isNumber 38 = .ok (.aload_n 0, 1) := by decide +kernel
theorem dX10_isNumber_39 : decode cX10_isNumber 39 = .ok (.dup, 1) := by decide +kernel
theorem dX10_isNumber_40 : decode cX10_isNumber 40 = .ok (.getfield 179, 3) := by decide +kernel
theorem dX10_isNumber_43 : decode cX10_isNumber 43 = .ok (.iconst 1, 1) := by decide +kernel
theorem dX10_isNumber_44 : decode cX10_isNumber 44 = .ok (.iadd, 1) := by decide +kernel
theorem dX10_isNumber_45 : decode cX10_isNumber 45 = .ok (.putfield 179, 3) := by decide +kernel
theorem dX10_isNumber_48 : decode cX10_isNumber 48 = .ok (.iinc 4 1, 3) := by decide +kernel
theorem dX10_isNumber_51 : decode cX10_isNumber 51 = .ok (.goto (-46), 3) := by decide +kernel
def lp_X10_isNumber_5 (d : MoV) (i : Int32) (j : Int32) : Nat → Int32 → Int32 → MoV → Int32 × MoV
  | 0, _, _, _ => (0, d)
  | n + 1, x4, x3, dL => (if i ≤ x4 then (if x4 ≤ (0 : Int32) then ((0 : Int32), (mo13 dL (upd dL.2.2.2.2.2.2.2.2.2.2.2.2.2.1 j.toNatClampNeg x3))) else ((1 : Int32), (mo13 dL (upd dL.2.2.2.2.2.2.2.2.2.2.2.2.2.1 j.toNatClampNeg x3)))) else (if (f_X10_isIn (f_X10_sign dL) (48 : Int32) (57 : Int32)) = (0 : Int32) then (if x4 ≤ (0 : Int32) then ((0 : Int32), (mo13 dL (upd dL.2.2.2.2.2.2.2.2.2.2.2.2.2.1 j.toNatClampNeg x3))) else ((1 : Int32), (mo13 dL (upd dL.2.2.2.2.2.2.2.2.2.2.2.2.2.1 j.toNatClampNeg x3)))) else (let y_12 : Int32 := ((((10 : Int32) * x3) + (f_X10_sign dL)) - (48 : Int32)); (lp_X10_isNumber_5 d i j n (x4 + 1) y_12 (mo15 dL (dL.2.2.2.2.2.2.2.2.2.2.2.2.2.2.2.1 + (1 : Int32)))))))
def okl_lp_X10_isNumber_5 (d : MoV) (i : Int32) (j : Int32) : Nat → Int32 → Int32 → MoV → Prop
  | 0, _, _, _ => False
  | n + 1, x4, x3, dL => (if i ≤ x4 then (vp_in j 93 ∧ True) else (ok_X10_sign dL ∧ (if (f_X10_isIn (f_X10_sign dL) (48 : Int32) (57 : Int32)) = (0 : Int32) then (vp_in j 93 ∧ True) else (ok_X10_sign dL ∧ (let y_12 : Int32 := ((((10 : Int32) * x3) + (f_X10_sign dL)) - (48 : Int32)); (okl_lp_X10_isNumber_5 d i j n (x4 + 1) y_12 (mo15 dL (dL.2.2.2.2.2.2.2.2.2.2.2.2.2.2.2.1 + (1 : Int32)))))))))
def f_X10_isNumber (d : MoV) (i : Int32) (j : Int32) : Int32 × MoV := (lp_X10_isNumber_5 d i j 5 (0 : Int32) (0 : Int32) d)
def ok_X10_isNumber (d : MoV) (i : Int32) (j : Int32) : Prop := (okl_lp_X10_isNumber_5 d i j 5 (0 : Int32) (0 : Int32) d)
set_option maxHeartbeats 4000000 in
set_option maxRecDepth 100000 in
theorem c_X10_isNumber (l : Launch) (G : GG) (dh0 : Nat) (dh1 : Nat) (dh2 : Nat) (dh3 : Nat) (dh4 : Nat) (dh5 : Nat) (dh6 : Nat) (dh7 : Nat) (sz : Nat) (d : MoV) (i : Int32) (j : Int32) (hok : ok_X10_isNumber d i j) : wMet l yX10_isNumber cX10_isNumber 5 (some .boolean) 2 0 0 G (fl [wMo G dh0 dh1 dh2 dh3 dh4 dh5 dh6 dh7 d]) [.ref dh0, .int i, .int j] sz (fun u : Int32 × MoV => some (.int u.1)) (fun u : Int32 × MoV => u = f_X10_isNumber d i j ∧ narrow .boolean (.int ((f_X10_isNumber d i j).1)) = .int ((f_X10_isNumber d i j).1)) (fun u : Int32 × MoV => fl [wMo G dh0 dh1 dh2 dh3 dh4 dh5 dh6 dh7 u.2]) := by
  refine w_start (by decide +kernel) (Nat.le_of_ble_eq_true rfl) ?_
  intro p e s m below meth c A hx hb hr hml hts hown hlk hin hP hD hA hK hST ls hl
  have hS : va_S A s.heap s.heap [] := va_S.rf
  have hown : s.vm.findClass RX10 = some m.cls := hown
  have hl : lv_has ls 5 [(0, .ref dh0), (1, .int i), (2, .int j)] := hl
  have hF : f_X10_isNumber d i j = (lp_X10_isNumber_5 d i j 5 (0 : Int32) (0 : Int32) d) := rfl
  have hok : (okl_lp_X10_isNumber_5 d i j 5 (0 : Int32) (0 : Int32) d) := hok
  refine lv_iconst (v := (0 : Int32)) hx hb dX10_isNumber_0 (by decide) ?_
  refine lv_istore_n (lv' := [(3, .int (0 : Int32)), (0, .ref dh0), (1, .int i), (2, .int j)]) hx hb dX10_isNumber_1 rfl hl (by decide) rfl (fun ls hl => ?_)
  refine lv_iconst (v := (0 : Int32)) hx hb dX10_isNumber_2 (by decide) ?_
  refine lv_istore (lv' := [(4, .int (0 : Int32)), (3, .int (0 : Int32)), (0, .ref dh0), (1, .int i), (2, .int j)]) hx hb dX10_isNumber_3 hl (by decide) rfl (fun ls hl => ?_)
  have L5 : ∀ (n : Nat) (x4 : Int32) (x3 : Int32) (dL : MoV) (H : Heap) (locs : List Loc) (ls : Array Slot), lv_has ls 5 [(4, .int x4), (3, .int x3), (0, .ref dh0), (1, .int i), (2, .int j)] → va_P G.1 vwCl (fl [wMo G dh0 dh1 dh2 dh3 dh4 dh5 dh6 dh7 dL]) H → va_D A (fl [wMo G dh0 dh1 dh2 dh3 dh4 dh5 dh6 dh7 dL]) → va_S A s.heap H locs → (True) → f_X10_isNumber d i j = lp_X10_isNumber_5 d i j n x4 x3 dL → okl_lp_X10_isNumber_5 d i j n x4 x3 dL → W p l e (rmd 2 0 0) s m ([.ref dh0, .int i, .int j] : List Value).toArray below meth c H locs 0 0 (MQ below (wQ (fun u : Int32 × MoV => some (.int u.1)) (fun u : Int32 × MoV => u = f_X10_isNumber d i j ∧ narrow .boolean (.int ((f_X10_isNumber d i j).1)) = .int ((f_X10_isNumber d i j).1)) (fun u : Int32 × MoV => fl [wMo G dh0 dh1 dh2 dh3 dh4 dh5 dh6 dh7 u.2]) G.1 A) ([.ref dh0, .int i, .int j] : List Value).toArray s 0 0 A) (F0 m 5 ls []) := by
    intro n
    induction n with
    | zero => intro x4 x3 dL H locs ls hl _ _ _ hu hF hok; exact hok.elim
    | succ n ih =>
      intro x4 x3 dL H locs ls hl hP hD hS hu hF hok
      have hF : f_X10_isNumber d i j = (if i ≤ x4 then (if x4 ≤ (0 : Int32) then ((0 : Int32), (mo13 dL (upd dL.2.2.2.2.2.2.2.2.2.2.2.2.2.1 j.toNatClampNeg x3))) else ((1 : Int32), (mo13 dL (upd dL.2.2.2.2.2.2.2.2.2.2.2.2.2.1 j.toNatClampNeg x3)))) else (if (f_X10_isIn (f_X10_sign dL) (48 : Int32) (57 : Int32)) = (0 : Int32) then (if x4 ≤ (0 : Int32) then ((0 : Int32), (mo13 dL (upd dL.2.2.2.2.2.2.2.2.2.2.2.2.2.1 j.toNatClampNeg x3))) else ((1 : Int32), (mo13 dL (upd dL.2.2.2.2.2.2.2.2.2.2.2.2.2.1 j.toNatClampNeg x3)))) else (let y_12 : Int32 := ((((10 : Int32) * x3) + (f_X10_sign dL)) - (48 : Int32)); (lp_X10_isNumber_5 d i j n (x4 + 1) y_12 (mo15 dL (dL.2.2.2.2.2.2.2.2.2.2.2.2.2.2.2.1 + (1 : Int32))))))) := hF
      have hok : (if i ≤ x4 then (vp_in j 93 ∧ True) else (ok_X10_sign dL ∧ (if (f_X10_isIn (f_X10_sign dL) (48 : Int32) (57 : Int32)) = (0 : Int32) then (vp_in j 93 ∧ True) else (ok_X10_sign dL ∧ (let y_12 : Int32 := ((((10 : Int32) * x3) + (f_X10_sign dL)) - (48 : Int32)); (okl_lp_X10_isNumber_5 d i j n (x4 + 1) y_12 (mo15 dL (dL.2.2.2.2.2.2.2.2.2.2.2.2.2.2.2.1 + (1 : Int32))))))))) := hok
      refine lv_iload hx hb dX10_isNumber_5 (lv_at hl 0 rfl) ?_
      refine lv_iload_n hx hb dX10_isNumber_7 rfl (lv_at hl 3 rfl) ?_
      refine lv_icmp_ge (tgt := 54) hx hb dX10_isNumber_8 (by decide) (fun c_1 => ?_) (fun c_1 => ?_)
      · have hF := hF.trans (if_pos c_1)
        have hok := Eq.mp (if_pos c_1) hok
        refine lv_aload_n hx hb dX10_isNumber_54 rfl (lv_at hl 2 rfl) ?_
        refine va_get (D := G.1) (ci := 12) (v := .ref dh7) (C := RX10) (T := TX10) (N := 17) hx hb hts uws_X10 hown hK hP 0 rfl rfl 13 (by decide) (hts _ u_1693) (fun _ h9 => h9) rfl dX10_isNumber_55 ?_
        refine lv_iload_n hx hb dX10_isNumber_58 rfl (lv_at hl 4 rfl) ?_
        refine lv_iload_n hx hb dX10_isNumber_59 rfl (lv_at hl 1 rfl) ?_
        have h_2 := hok.1
        have hok := hok.2
        refine va_iast hx hb hK hP hD hS 7 0 rfl rfl h_2 dX10_isNumber_60 (fun H locs hP hD hS => ?_)
        have hP : va_P G.1 vwCl (fl [wMo G dh0 dh1 dh2 dh3 dh4 dh5 dh6 dh7 (mo13 dL (upd dL.2.2.2.2.2.2.2.2.2.2.2.2.2.1 j.toNatClampNeg x3))]) H := hP
        have hD : va_D A (fl [wMo G dh0 dh1 dh2 dh3 dh4 dh5 dh6 dh7 (mo13 dL (upd dL.2.2.2.2.2.2.2.2.2.2.2.2.2.1 j.toNatClampNeg x3))]) := hD
        refine lv_iload hx hb dX10_isNumber_61 (lv_at hl 0 rfl) ?_
        refine lv_if_le (tgt := 70) hx hb dX10_isNumber_63 (by decide) (fun c_3 => ?_) (fun c_3 => ?_)
        · have hF := hF.trans (if_pos c_3)
          refine lv_iconst (v := (0 : Int32)) hx hb dX10_isNumber_70 (by decide) ?_
          exact w_ret (u := ((0 : Int32), (mo13 dL (upd dL.2.2.2.2.2.2.2.2.2.2.2.2.2.1 j.toNatClampNeg x3)))) hx hb hr hlk rfl hS rfl ⟨hF.symm, (by rw [hF]; exact (rfl : narrow .boolean (.int (0 : Int32)) = .int (0 : Int32)))⟩ hP hD (Nat.le_of_ble_eq_true rfl) (Nat.le_of_ble_eq_true rfl) dX10_isNumber_71
        · have hF := hF.trans (if_neg c_3)
          refine lv_iconst (v := (1 : Int32)) hx hb dX10_isNumber_66 (by decide) ?_
          refine lv_goto (tgt := 71) hx hb dX10_isNumber_67 (by decide) ?_
          exact w_ret (u := ((1 : Int32), (mo13 dL (upd dL.2.2.2.2.2.2.2.2.2.2.2.2.2.1 j.toNatClampNeg x3)))) hx hb hr hlk rfl hS rfl ⟨hF.symm, (by rw [hF]; exact (rfl : narrow .boolean (.int (1 : Int32)) = .int (1 : Int32)))⟩ hP hD (Nat.le_of_ble_eq_true rfl) (Nat.le_of_ble_eq_true rfl) dX10_isNumber_71
      · have hF := hF.trans (if_neg c_1)
        have hok := Eq.mp (if_neg c_1) hok
        refine lv_aload_n hx hb dX10_isNumber_11 rfl (lv_at hl 2 rfl) ?_
        have k_4 := hok.1
        have hok := hok.2
        refine r_V (own := RX10) (v := (some (.int (f_X10_sign dL)))) (st1 := [.int (f_X10_sign dL)]) (As := []) (rest := []) (c_X10_sign l G dh0 dh1 dh2 dh3 dh4 dh5 dh6 dh7 dL k_4) ⟨hx, hb, hml, hown, hts⟩ g_X10_182 hdv_X10_sign hK hST hS hP [0, 1, 2, 3, 4, 5, 6, 7] rfl (k0 := 0) rfl rfl rfl ⟨Nat.le_of_ble_eq_true rfl, Nat.le_of_ble_eq_true rfl⟩ ⟨Nat.le_of_ble_eq_true rfl, Nat.le_of_ble_eq_true rfl⟩ rfl hl.1 rfl (Nat.le_of_ble_eq_true rfl) dX10_isNumber_12 rfl (fun b_5 => ?_)
        refine lv_bipush (v := (48 : Int32)) hx hb dX10_isNumber_15 (by decide) ?_
        refine lv_bipush (v := (57 : Int32)) hx hb dX10_isNumber_17 (by decide) ?_
        refine r_S (own := RX10) (v := (some (.int (f_X10_isIn (f_X10_sign dL) (48 : Int32) (57 : Int32))))) (st1 := [.int (f_X10_isIn (f_X10_sign dL) (48 : Int32) (57 : Int32))]) (As := [.int (f_X10_sign dL), .int (48 : Int32), .int (57 : Int32)]) (rest := []) (c_X10_isIn l G (f_X10_sign dL) (48 : Int32) (57 : Int32)) ⟨hx, hb, hml, hown, hts⟩ g_X10_48 hds_X10_isIn hK hST hS hP [] rfl ⟨Nat.le_of_ble_eq_true rfl, Nat.le_of_ble_eq_true rfl⟩ ⟨Nat.le_of_ble_eq_true rfl, Nat.le_of_ble_eq_true rfl⟩ rfl hl.1 rfl (Nat.le_of_ble_eq_true rfl) dX10_isNumber_19 rfl (fun b_6 => ?_)
        refine lv_if_eq (tgt := 54) hx hb dX10_isNumber_22 (by decide) (fun c_7 => ?_) (fun c_7 => ?_)
        · have hF := hF.trans (if_pos c_7)
          have hok := Eq.mp (if_pos c_7) hok
          refine lv_aload_n hx hb dX10_isNumber_54 rfl (lv_at hl 2 rfl) ?_
          refine va_get (D := G.1) (ci := 12) (v := .ref dh7) (C := RX10) (T := TX10) (N := 17) hx hb hts uws_X10 hown hK hP 0 rfl rfl 13 (by decide) (hts _ u_1693) (fun _ h9 => h9) rfl dX10_isNumber_55 ?_
          refine lv_iload_n hx hb dX10_isNumber_58 rfl (lv_at hl 4 rfl) ?_
          refine lv_iload_n hx hb dX10_isNumber_59 rfl (lv_at hl 1 rfl) ?_
          have h_8 := hok.1
          have hok := hok.2
          refine va_iast hx hb hK hP hD hS 7 0 rfl rfl h_8 dX10_isNumber_60 (fun H locs hP hD hS => ?_)
          have hP : va_P G.1 vwCl (fl [wMo G dh0 dh1 dh2 dh3 dh4 dh5 dh6 dh7 (mo13 dL (upd dL.2.2.2.2.2.2.2.2.2.2.2.2.2.1 j.toNatClampNeg x3))]) H := hP
          have hD : va_D A (fl [wMo G dh0 dh1 dh2 dh3 dh4 dh5 dh6 dh7 (mo13 dL (upd dL.2.2.2.2.2.2.2.2.2.2.2.2.2.1 j.toNatClampNeg x3))]) := hD
          refine lv_iload hx hb dX10_isNumber_61 (lv_at hl 0 rfl) ?_
          refine lv_if_le (tgt := 70) hx hb dX10_isNumber_63 (by decide) (fun c_9 => ?_) (fun c_9 => ?_)
          · have hF := hF.trans (if_pos c_9)
            refine lv_iconst (v := (0 : Int32)) hx hb dX10_isNumber_70 (by decide) ?_
            exact w_ret (u := ((0 : Int32), (mo13 dL (upd dL.2.2.2.2.2.2.2.2.2.2.2.2.2.1 j.toNatClampNeg x3)))) hx hb hr hlk rfl hS rfl ⟨hF.symm, (by rw [hF]; exact (rfl : narrow .boolean (.int (0 : Int32)) = .int (0 : Int32)))⟩ hP hD (Nat.le_of_ble_eq_true rfl) (Nat.le_of_ble_eq_true rfl) dX10_isNumber_71
          · have hF := hF.trans (if_neg c_9)
            refine lv_iconst (v := (1 : Int32)) hx hb dX10_isNumber_66 (by decide) ?_
            refine lv_goto (tgt := 71) hx hb dX10_isNumber_67 (by decide) ?_
            exact w_ret (u := ((1 : Int32), (mo13 dL (upd dL.2.2.2.2.2.2.2.2.2.2.2.2.2.1 j.toNatClampNeg x3)))) hx hb hr hlk rfl hS rfl ⟨hF.symm, (by rw [hF]; exact (rfl : narrow .boolean (.int (1 : Int32)) = .int (1 : Int32)))⟩ hP hD (Nat.le_of_ble_eq_true rfl) (Nat.le_of_ble_eq_true rfl) dX10_isNumber_71
        · have hF := hF.trans (if_neg c_7)
          have hok := Eq.mp (if_neg c_7) hok
          refine lv_bipush (v := (10 : Int32)) hx hb dX10_isNumber_25 (by decide) ?_
          refine lv_iload_n hx hb dX10_isNumber_27 rfl (lv_at hl 1 rfl) ?_
          refine lv_imul hx hb dX10_isNumber_28 ?_
          refine lv_aload_n hx hb dX10_isNumber_29 rfl (lv_at hl 2 rfl) ?_
          have k_10 := hok.1
          have hok := hok.2
          refine r_V (own := RX10) (v := (some (.int (f_X10_sign dL)))) (st1 := [.int (f_X10_sign dL), .int ((10 : Int32) * x3)]) (As := []) (rest := [.int ((10 : Int32) * x3)]) (c_X10_sign l G dh0 dh1 dh2 dh3 dh4 dh5 dh6 dh7 dL k_10) ⟨hx, hb, hml, hown, hts⟩ g_X10_182 hdv_X10_sign hK hST hS hP [0, 1, 2, 3, 4, 5, 6, 7] rfl (k0 := 0) rfl rfl rfl ⟨Nat.le_of_ble_eq_true rfl, Nat.le_of_ble_eq_true rfl⟩ ⟨Nat.le_of_ble_eq_true rfl, Nat.le_of_ble_eq_true rfl⟩ rfl hl.1 rfl (Nat.le_of_ble_eq_true rfl) dX10_isNumber_30 rfl (fun b_11 => ?_)
          refine lv_iadd hx hb dX10_isNumber_33 ?_
          refine lv_bipush (v := (48 : Int32)) hx hb dX10_isNumber_34 (by decide) ?_
          refine lv_isub hx hb dX10_isNumber_36 ?_
          refine lv_topi (fun y_12 ey_12 => ?_)
          have hF : f_X10_isNumber d i j = (lp_X10_isNumber_5 d i j n (x4 + 1) y_12 (mo15 dL (dL.2.2.2.2.2.2.2.2.2.2.2.2.2.2.2.1 + (1 : Int32)))) := by subst ey_12; exact hF
          have hok : (okl_lp_X10_isNumber_5 d i j n (x4 + 1) y_12 (mo15 dL (dL.2.2.2.2.2.2.2.2.2.2.2.2.2.2.2.1 + (1 : Int32)))) := by subst ey_12; exact hok
          refine lv_istore_n (lv' := [(3, .int y_12), (4, .int x4), (0, .ref dh0), (1, .int i), (2, .int j)]) hx hb dX10_isNumber_37 rfl hl (by decide) rfl (fun ls hl => ?_)
          refine lv_aload_n hx hb dX10_isNumber_38 rfl (lv_at hl 2 rfl) ?_
          refine lv_dup hx hb dX10_isNumber_39 rfl ?_
          refine va_get (D := G.1) (ci := 12) (v := .int dL.2.2.2.2.2.2.2.2.2.2.2.2.2.2.2.1) (C := RX10) (T := TX10) (N := 17) hx hb hts uws_X10 hown hK hP 0 rfl rfl 15 (by decide) (hts _ u_1695) (fun _ h9 => h9) rfl dX10_isNumber_40 ?_
          refine lv_iconst (v := (1 : Int32)) hx hb dX10_isNumber_43 (by decide) ?_
          refine lv_iadd hx hb dX10_isNumber_44 ?_
          refine va_put (D := G.1) (ci := 12) (v := .int (dL.2.2.2.2.2.2.2.2.2.2.2.2.2.2.2.1 + (1 : Int32))) (ty := .int) (C := RX10) (T := TX10) (N := 17) hx hb hts uws_X10 tyX10 tyX10_ok nmX10 hown hK hP hD hS 0 rfl rfl 15 (by decide) (hts _ u_1695) (fun _ h9 => h9) rfl (by decide +kernel) rfl rfl (Nat.le_of_ble_eq_true rfl) dX10_isNumber_45 (fun H locs hP hD hS => ?_)
          have hP : va_P G.1 vwCl (fl [wMo G dh0 dh1 dh2 dh3 dh4 dh5 dh6 dh7 (mo15 dL (dL.2.2.2.2.2.2.2.2.2.2.2.2.2.2.2.1 + (1 : Int32)))]) H := hP
          have hD : va_D A (fl [wMo G dh0 dh1 dh2 dh3 dh4 dh5 dh6 dh7 (mo15 dL (dL.2.2.2.2.2.2.2.2.2.2.2.2.2.2.2.1 + (1 : Int32)))]) := hD
          refine lv_iinc (v := (x4 + 1)) (lv' := [(4, .int (x4 + 1)), (3, .int y_12), (0, .ref dh0), (1, .int i), (2, .int j)]) hx hb dX10_isNumber_48 hl (k := 1) rfl rfl (by decide) rfl (fun ls hl => ?_)
          refine lv_goto (tgt := 5) hx hb dX10_isNumber_51 (by decide) ?_
          exact ih (x4 + 1) y_12 (mo15 dL (dL.2.2.2.2.2.2.2.2.2.2.2.2.2.2.2.1 + (1 : Int32))) _ _ ls (lv_sub hl [0, 1, 2, 3, 4] rfl) hP hD hS (trivial) hF hok
  exact L5 5 (0 : Int32) (0 : Int32) d _ _ ls (lv_sub hl [0, 1, 2, 3, 4] rfl) hP hD hS (trivial) hF hok
theorem dX10_isWord_0 : decode cX10_isWord 0 = .ok (.iconst 0, 1) := by decide +kernel
theorem dX10_isWord_1 : decode cX10_isWord 1 = .ok (.istore_n 2, 1) := by decide +kernel
theorem dX10_isWord_2 : decode cX10_isWord 2 = .ok (.iload_n 2, 1) := by decide +kernel
theorem dX10_isWord_3 : decode cX10_isWord 3 = .ok (.aload_n 1, 1) := by decide +kernel
theorem dX10_isWord_4 : decode cX10_isWord 4 = .ok (.invokevirtual 185, 3) := by decide +kernel
theorem u_2092 : Cond.methodLink RX10 185 yJ0_length_8abf5 ∈ UW := uw 2092 (by decide +kernel) rfl
theorem g_X10_185 : GoodIn UW (wsV RX10 185 RJ0 yJ0_length_8abf5 (wsU yJ0_length_8abf5 cJ0_length_8abf5 1 (some .int))) := gV u_2092 u_1294 u_1295 u_75 u_1296
theorem dX10_isWord_7 : decode cX10_isWord 7 = .ok (.if_icmp .ge 23, 3) := by decide +kernel
theorem dX10_isWord_30 : decode cX10_isWord 30 = .ok (.iconst 1, 1) := by decide +kernel
theorem dX10_isWord_31 : decode cX10_isWord 31 = .ok (.ireturn, 1) := by decide +kernel
theorem dX10_isWord_10 : decode cX10_isWord 10 = .ok (.aload_n 0, 1) := by decide +kernel
theorem dX10_isWord_11 : decode cX10_isWord 11 = .ok (.aload_n 1, 1) := by decide +kernel
theorem dX10_isWord_12 : decode cX10_isWord 12 = .ok (.iload_n 2, 1) := by decide +kernel
theorem dX10_isWord_13 : decode cX10_isWord 13 = .ok (.invokevirtual 190, 3) := by decide +kernel
theorem u_2093 : Cond.methodLink RX10 190 yJ0_charAt_5068e ∈ UW := uw 2093 (by decide +kernel) rfl
theorem g_X10_190 : GoodIn UW (wsV RX10 190 RJ0 yJ0_charAt_5068e (wsU yJ0_charAt_5068e cJ0_charAt_5068e 2 (some .char))) := gV u_2093 u_1576 u_1577 u_75 u_1578
theorem dX10_isWord_16 : decode cX10_isWord 16 = .ok (.invokevirtual 194, 3) := by decide +kernel
theorem u_2094 : Cond.methodLink RX10 194 yX10_isSign ∈ UW := uw 2094 (by decide +kernel) rfl
theorem u_2096 : Cond.instanceMethod yX10_isSign ∈ UW := uw 2096 (by decide +kernel) rfl
theorem u_58 : Cond.selects RX10 yX10_isSign yX10_isSign ∈ UW := uw 58 (by decide +kernel) rfl
theorem u_2097 : Cond.code yX10_isSign cX10_isSign 3 (some .boolean) ∈ UW := uw 2097 (by decide +kernel) rfl
theorem g_X10_194 : GoodIn UW (wsV RX10 194 RX10 yX10_isSign (wsU yX10_isSign cX10_isSign 3 (some .boolean))) := gV u_2094 u_2096 u_58 u_77 u_2097
theorem hdv_X10_isSign : yX10_isSign.cls = RX10 ∧ yX10_isSign.cls ≠ "java/lang/invoke/MethodHandle" ∧ yX10_isSign.cls ≠ "java/lang/invoke/VarHandle" ∧ (parseMethodDescriptor yX10_isSign.desc).map (fun d => d.parameters.length) = some 1 := by decide +kernel
theorem dX10_isWord_19 : decode cX10_isWord 19 = .ok (.ifCond .ne 5, 3) := by decide +kernel
theorem dX10_isWord_24 : decode cX10_isWord 24 = .ok (.iinc 2 1, 3) := by decide +kernel
theorem dX10_isWord_27 : decode cX10_isWord 27 = .ok (.goto (-25), 3) := by decide +kernel
theorem dX10_isWord_22 : decode cX10_isWord 22 = .ok (.iconst 0, 1) := by decide +kernel
theorem dX10_isWord_23 : decode cX10_isWord 23 = .ok (.ireturn, 1) := by decide +kernel
def lp_X10_isWord_2 (d : MoV) (tj : Nat) : Nat → Int32 → MoV → Int32 × MoV
  | 0, _, _ => (0, d)
  | n + 1, x2, dL => (if (f_J0_length_8abf5 tj) ≤ x2 then ((1 : Int32), dL) else (let u_7 : Int32 × MoV := (f_X10_isSign dL (f_J0_charAt_5068e tj x2)); (if u_7.1 = (0 : Int32) then ((0 : Int32), u_7.2) else (lp_X10_isWord_2 d tj n (x2 + 1) u_7.2))))
def okl_lp_X10_isWord_2 (d : MoV) (tj : Nat) : Nat → Int32 → MoV → Prop
  | 0, _, _ => False
  | n + 1, x2, dL => (if (f_J0_length_8abf5 tj) ≤ x2 then True else (ok_J0_charAt_5068e tj x2 ∧ (ok_X10_isSign dL (f_J0_charAt_5068e tj x2) ∧ (let u_7 : Int32 × MoV := (f_X10_isSign dL (f_J0_charAt_5068e tj x2)); (if u_7.1 = (0 : Int32) then True else (okl_lp_X10_isWord_2 d tj n (x2 + 1) u_7.2))))))
def f_X10_isWord (d : MoV) (tj : Nat) : Int32 × MoV := (lp_X10_isWord_2 d tj 8 (0 : Int32) d)
def ok_X10_isWord (d : MoV) (tj : Nat) : Prop := (okl_lp_X10_isWord_2 d tj 8 (0 : Int32) d)
set_option maxHeartbeats 4000000 in
set_option maxRecDepth 100000 in
theorem c_X10_isWord (l : Launch) (G : GG) (dh0 : Nat) (dh1 : Nat) (dh2 : Nat) (dh3 : Nat) (dh4 : Nat) (dh5 : Nat) (dh6 : Nat) (dh7 : Nat) (sz : Nat) (d : MoV) (tj : Nat) (hok : ok_X10_isWord d tj) (hyp_tj : tj < strL.length) : wMet l yX10_isWord cX10_isWord 3 (some .boolean) 5 0 0 G (fl [wMo G dh0 dh1 dh2 dh3 dh4 dh5 dh6 dh7 d]) [.ref dh0, .ref (G.2.2.1 (10 + tj))] sz (fun u : Int32 × MoV => some (.int u.1)) (fun u : Int32 × MoV => u = f_X10_isWord d tj ∧ narrow .boolean (.int ((f_X10_isWord d tj).1)) = .int ((f_X10_isWord d tj).1)) (fun u : Int32 × MoV => fl [wMo G dh0 dh1 dh2 dh3 dh4 dh5 dh6 dh7 u.2]) := by
  refine w_start (by decide +kernel) (Nat.le_of_ble_eq_true rfl) ?_
  intro p e s m below meth c A hx hb hr hml hts hown hlk hin hP hD hA hK hST ls hl
  have hS : va_S A s.heap s.heap [] := va_S.rf
  have hown : s.vm.findClass RX10 = some m.cls := hown
  have hl : lv_has ls 3 [(0, .ref dh0), (1, .ref (G.2.2.1 (10 + tj)))] := hl
  have hF : f_X10_isWord d tj = (lp_X10_isWord_2 d tj 8 (0 : Int32) d) := rfl
  have hok : (okl_lp_X10_isWord_2 d tj 8 (0 : Int32) d) := hok
  refine lv_iconst (v := (0 : Int32)) hx hb dX10_isWord_0 (by decide) ?_
  refine lv_istore_n (lv' := [(2, .int (0 : Int32)), (0, .ref dh0), (1, .ref (G.2.2.1 (10 + tj)))]) hx hb dX10_isWord_1 rfl hl (by decide) rfl (fun ls hl => ?_)
  have L2 : ∀ (n : Nat) (x2 : Int32) (dL : MoV) (H : Heap) (locs : List Loc) (ls : Array Slot), lv_has ls 3 [(2, .int x2), (0, .ref dh0), (1, .ref (G.2.2.1 (10 + tj)))] → va_P G.1 vwCl (fl [wMo G dh0 dh1 dh2 dh3 dh4 dh5 dh6 dh7 dL]) H → va_D A (fl [wMo G dh0 dh1 dh2 dh3 dh4 dh5 dh6 dh7 dL]) → va_S A s.heap H locs → (True) → f_X10_isWord d tj = lp_X10_isWord_2 d tj n x2 dL → okl_lp_X10_isWord_2 d tj n x2 dL → W p l e (rmd 5 0 0) s m ([.ref dh0, .ref (G.2.2.1 (10 + tj))] : List Value).toArray below meth c H locs 0 0 (MQ below (wQ (fun u : Int32 × MoV => some (.int u.1)) (fun u : Int32 × MoV => u = f_X10_isWord d tj ∧ narrow .boolean (.int ((f_X10_isWord d tj).1)) = .int ((f_X10_isWord d tj).1)) (fun u : Int32 × MoV => fl [wMo G dh0 dh1 dh2 dh3 dh4 dh5 dh6 dh7 u.2]) G.1 A) ([.ref dh0, .ref (G.2.2.1 (10 + tj))] : List Value).toArray s 0 0 A) (F0 m 2 ls []) := by
    intro n
    induction n with
    | zero => intro x2 dL H locs ls hl _ _ _ hu hF hok; exact hok.elim
    | succ n ih =>
      intro x2 dL H locs ls hl hP hD hS hu hF hok
      have hF : f_X10_isWord d tj = (if (f_J0_length_8abf5 tj) ≤ x2 then ((1 : Int32), dL) else (let u_7 : Int32 × MoV := (f_X10_isSign dL (f_J0_charAt_5068e tj x2)); (if u_7.1 = (0 : Int32) then ((0 : Int32), u_7.2) else (lp_X10_isWord_2 d tj n (x2 + 1) u_7.2)))) := hF
      have hok : (if (f_J0_length_8abf5 tj) ≤ x2 then True else (ok_J0_charAt_5068e tj x2 ∧ (ok_X10_isSign dL (f_J0_charAt_5068e tj x2) ∧ (let u_7 : Int32 × MoV := (f_X10_isSign dL (f_J0_charAt_5068e tj x2)); (if u_7.1 = (0 : Int32) then True else (okl_lp_X10_isWord_2 d tj n (x2 + 1) u_7.2)))))) := hok
      refine lv_iload_n hx hb dX10_isWord_2 rfl (lv_at hl 0 rfl) ?_
      refine lv_aload_n hx hb dX10_isWord_3 rfl (lv_at hl 2 rfl) ?_
      refine r_Vs (own := RX10) (v := (some (.int (f_J0_length_8abf5 tj)))) (st1 := [.int (f_J0_length_8abf5 tj), .int x2]) (As := []) (rest := [.int x2]) (c_J0_length_8abf5 l G tj hyp_tj) ⟨hx, hb, hml, hown, hts⟩ g_X10_185 hdv_J0_length_8abf5 hK hST hS hP [] rfl (recv_str hST hS hyp_tj) ⟨Nat.le_of_ble_eq_true rfl, Nat.le_of_ble_eq_true rfl⟩ ⟨Nat.le_of_ble_eq_true rfl, Nat.le_of_ble_eq_true rfl⟩ rfl hl.1 rfl (Nat.le_of_ble_eq_true rfl) dX10_isWord_4 rfl (fun b_1 => ?_)
      refine lv_icmp_ge (tgt := 30) hx hb dX10_isWord_7 (by decide) (fun c_2 => ?_) (fun c_2 => ?_)
      · have hF := hF.trans (if_pos c_2)
        have hok := Eq.mp (if_pos c_2) hok
        refine lv_iconst (v := (1 : Int32)) hx hb dX10_isWord_30 (by decide) ?_
        exact w_ret (u := ((1 : Int32), dL)) hx hb hr hlk rfl hS rfl ⟨hF.symm, (by rw [hF]; exact (rfl : narrow .boolean (.int (1 : Int32)) = .int (1 : Int32)))⟩ hP hD (Nat.le_of_ble_eq_true rfl) (Nat.le_of_ble_eq_true rfl) dX10_isWord_31
      · have hF := hF.trans (if_neg c_2)
        have hok := Eq.mp (if_neg c_2) hok
        refine lv_aload_n hx hb dX10_isWord_10 rfl (lv_at hl 1 rfl) ?_
        refine lv_aload_n hx hb dX10_isWord_11 rfl (lv_at hl 2 rfl) ?_
        refine lv_iload_n hx hb dX10_isWord_12 rfl (lv_at hl 0 rfl) ?_
        have k_3 := hok.1
        have hok := hok.2
        refine r_Vs (own := RX10) (v := (some (.int (f_J0_charAt_5068e tj x2)))) (st1 := [.int (f_J0_charAt_5068e tj x2), .ref dh0]) (As := [.int x2]) (rest := [.ref dh0]) (c_J0_charAt_5068e l G tj x2 k_3 hyp_tj) ⟨hx, hb, hml, hown, hts⟩ g_X10_190 hdv_J0_charAt_5068e hK hST hS hP [] rfl (recv_str hST hS hyp_tj) ⟨Nat.le_of_ble_eq_true rfl, Nat.le_of_ble_eq_true rfl⟩ ⟨Nat.le_of_ble_eq_true rfl, Nat.le_of_ble_eq_true rfl⟩ rfl hl.1 rfl (Nat.le_of_ble_eq_true rfl) dX10_isWord_13 rfl (fun b_4 => ?_)
        have k_5 := hok.1
        have hok := hok.2
        refine w_V (own := RX10) (cs := [wMo G dh0 dh1 dh2 dh3 dh4 dh5 dh6 dh7 dL]) (rs := []) (As := [.int (f_J0_charAt_5068e tj x2)]) (rest := []) (c_X10_isSign l G dh0 dh1 dh2 dh3 dh4 dh5 dh6 dh7 H.size dL (f_J0_charAt_5068e tj x2) k_5) ⟨hx, hb, hml, hown, hts⟩ g_X10_194 hdv_X10_isSign hK hST hS hP hD hA [0] [] rfl rfl rfl (k0 := 0) rfl rfl rfl ⟨Nat.le_of_ble_eq_true rfl, Nat.le_of_ble_eq_true rfl⟩ ⟨Nat.le_of_ble_eq_true rfl, Nat.le_of_ble_eq_true rfl⟩ rfl hl.1 rfl (Nat.le_of_ble_eq_true rfl) dX10_isWord_16 (fun u_7 H locs huu hP hD hS => ?_)
        obtain ⟨huu, b_6⟩ := huu
        rw [← huu] at b_6
        have eu_7 := huu
        have hP : va_P G.1 vwCl (fl [wMo G dh0 dh1 dh2 dh3 dh4 dh5 dh6 dh7 u_7.2]) H := hP
        have hD : va_D A (fl [wMo G dh0 dh1 dh2 dh3 dh4 dh5 dh6 dh7 u_7.2]) := hD
        refine W.eq (g2 := F0 m 19 ls [.int u_7.1]) rfl ?_
        have hF : f_X10_isWord d tj = (if u_7.1 = (0 : Int32) then ((0 : Int32), u_7.2) else (lp_X10_isWord_2 d tj n (x2 + 1) u_7.2)) := by subst eu_7; exact hF
        have hok : (if u_7.1 = (0 : Int32) then True else (okl_lp_X10_isWord_2 d tj n (x2 + 1) u_7.2)) := by subst eu_7; exact hok
        refine lv_if_ne (tgt := 24) hx hb dX10_isWord_19 (by decide) (fun c_8 => ?_) (fun c_8 => ?_)
        · have hF := hF.trans (if_neg c_8)
          have hok := Eq.mp (if_neg c_8) hok
          refine lv_iinc (v := (x2 + 1)) (lv' := [(2, .int (x2 + 1)), (0, .ref dh0), (1, .ref (G.2.2.1 (10 + tj)))]) hx hb dX10_isWord_24 hl (k := 0) rfl rfl (by decide) rfl (fun ls hl => ?_)
          refine lv_goto (tgt := 2) hx hb dX10_isWord_27 (by decide) ?_
          exact ih (x2 + 1) u_7.2 _ _ ls (lv_sub hl [0, 1, 2] rfl) hP hD hS (trivial) hF hok
        · have hF := hF.trans (if_pos c_8)
          have hok := Eq.mp (if_pos c_8) hok
          refine lv_iconst (v := (0 : Int32)) hx hb dX10_isWord_22 (by decide) ?_
          exact w_ret (u := ((0 : Int32), u_7.2)) hx hb hr hlk rfl hS rfl ⟨hF.symm, (by rw [hF]; exact (rfl : narrow .boolean (.int (0 : Int32)) = .int (0 : Int32)))⟩ hP hD (Nat.le_of_ble_eq_true rfl) (Nat.le_of_ble_eq_true rfl) dX10_isWord_23
  exact L2 8 (0 : Int32) d _ _ ls (lv_sub hl [0, 1, 2] rfl) hP hD hS (trivial) hF hok
theorem dX10_isPair_0 : decode cX10_isPair 0 = .ok (.aload_n 0, 1) := by decide +kernel
theorem dX10_isPair_1 : decode cX10_isPair 1 = .ok (.iconst 1, 1) := by decide +kernel
theorem dX10_isPair_2 : decode cX10_isPair 2 = .ok (.iload_n 1, 1) := by decide +kernel
theorem dX10_isPair_3 : decode cX10_isPair 3 = .ok (.iconst 1, 1) := by decide +kernel
theorem dX10_isPair_4 : decode cX10_isPair 4 = .ok (.iadd, 1) := by decide +kernel
theorem dX10_isPair_5 : decode cX10_isPair 5 = .ok (.invokevirtual 197, 3) := by decide +kernel
theorem u_2102 : Cond.methodLink RX10 197 yX10_isNumber ∈ UW := uw 2102 (by decide +kernel) rfl
theorem u_2104 : Cond.instanceMethod yX10_isNumber ∈ UW := uw 2104 (by decide +kernel) rfl
theorem u_60 : Cond.selects RX10 yX10_isNumber yX10_isNumber ∈ UW := uw 60 (by decide +kernel) rfl
theorem u_2105 : Cond.code yX10_isNumber cX10_isNumber 5 (some .boolean) ∈ UW := uw 2105 (by decide +kernel) rfl
theorem g_X10_197 : GoodIn UW (wsV RX10 197 RX10 yX10_isNumber (wsU yX10_isNumber cX10_isNumber 5 (some .boolean))) := gV u_2102 u_2104 u_60 u_77 u_2105
theorem hdv_X10_isNumber : yX10_isNumber.cls = RX10 ∧ yX10_isNumber.cls ≠ "java/lang/invoke/MethodHandle" ∧ yX10_isNumber.cls ≠ "java/lang/invoke/VarHandle" ∧ (parseMethodDescriptor yX10_isNumber.desc).map (fun d => d.parameters.length) = some 2 := by decide +kernel
theorem dX10_isPair_8 : decode cX10_isPair 8 = .ok (.ifCond .eq 18, 3) := by decide +kernel
theorem dX10_isPair_26 : decode cX10_isPair 26 = .ok (.iconst 0, 1) := by decide +kernel
theorem dX10_isPair_27 : decode cX10_isPair 27 = .ok (.ireturn, 1) := by decide +kernel
theorem dX10_isPair_11 : decode cX10_isPair 11 = .ok (.aload_n 0, 1) := by decide +kernel
theorem dX10_isPair_12 : decode cX10_isPair 12 = .ok (.iconst 1, 1) := by decide +kernel
theorem dX10_isPair_13 : decode cX10_isPair 13 = .ok (.iload_n 1, 1) := by decide +kernel
theorem dX10_isPair_14 : decode cX10_isPair 14 = .ok (.iconst 2, 1) := by decide +kernel
theorem dX10_isPair_15 : decode cX10_isPair 15 = .ok (.iadd, 1) := by decide +kernel
theorem dX10_isPair_16 : decode cX10_isPair 16 = .ok (.invokevirtual 197, 3) := by decide +kernel
theorem dX10_isPair_19 : decode cX10_isPair 19 = .ok (.ifCond .eq 7, 3) := by decide +kernel
theorem dX10_isPair_22 : decode cX10_isPair 22 = .ok (.iconst 1, 1) := by decide +kernel
theorem dX10_isPair_23 : decode cX10_isPair 23 = .ok (.goto 4, 3) := by decide +kernel
def f_X10_isPair (d : MoV) (i : Int32) : Int32 × MoV := (let u_3 : Int32 × MoV := (f_X10_isNumber d (1 : Int32) (i + (1 : Int32))); (if u_3.1 = (0 : Int32) then ((0 : Int32), u_3.2) else (let u_7 : Int32 × MoV := (f_X10_isNumber u_3.2 (1 : Int32) (i + (2 : Int32))); (if u_7.1 = (0 : Int32) then ((0 : Int32), u_7.2) else ((1 : Int32), u_7.2)))))
def ok_X10_isPair (d : MoV) (i : Int32) : Prop := (ok_X10_isNumber d (1 : Int32) (i + (1 : Int32)) ∧ (let u_3 : Int32 × MoV := (f_X10_isNumber d (1 : Int32) (i + (1 : Int32))); (if u_3.1 = (0 : Int32) then True else (ok_X10_isNumber u_3.2 (1 : Int32) (i + (2 : Int32)) ∧ True))))
set_option maxHeartbeats 4000000 in
set_option maxRecDepth 100000 in
theorem c_X10_isPair (l : Launch) (G : GG) (dh0 : Nat) (dh1 : Nat) (dh2 : Nat) (dh3 : Nat) (dh4 : Nat) (dh5 : Nat) (dh6 : Nat) (dh7 : Nat) (sz : Nat) (d : MoV) (i : Int32) (hok : ok_X10_isPair d i) : wMet l yX10_isPair cX10_isPair 2 (some .boolean) 3 0 0 G (fl [wMo G dh0 dh1 dh2 dh3 dh4 dh5 dh6 dh7 d]) [.ref dh0, .int i] sz (fun u : Int32 × MoV => some (.int u.1)) (fun u : Int32 × MoV => u = f_X10_isPair d i ∧ narrow .boolean (.int ((f_X10_isPair d i).1)) = .int ((f_X10_isPair d i).1)) (fun u : Int32 × MoV => fl [wMo G dh0 dh1 dh2 dh3 dh4 dh5 dh6 dh7 u.2]) := by
  refine w_start (by decide +kernel) (Nat.le_of_ble_eq_true rfl) ?_
  intro p e s m below meth c A hx hb hr hml hts hown hlk hin hP hD hA hK hST ls hl
  have hS : va_S A s.heap s.heap [] := va_S.rf
  have hown : s.vm.findClass RX10 = some m.cls := hown
  have hl : lv_has ls 2 [(0, .ref dh0), (1, .int i)] := hl
  have hF : f_X10_isPair d i = (let u_3 : Int32 × MoV := (f_X10_isNumber d (1 : Int32) (i + (1 : Int32))); (if u_3.1 = (0 : Int32) then ((0 : Int32), u_3.2) else (let u_7 : Int32 × MoV := (f_X10_isNumber u_3.2 (1 : Int32) (i + (2 : Int32))); (if u_7.1 = (0 : Int32) then ((0 : Int32), u_7.2) else ((1 : Int32), u_7.2))))) := rfl
  have hok : (ok_X10_isNumber d (1 : Int32) (i + (1 : Int32)) ∧ (let u_3 : Int32 × MoV := (f_X10_isNumber d (1 : Int32) (i + (1 : Int32))); (if u_3.1 = (0 : Int32) then True else (ok_X10_isNumber u_3.2 (1 : Int32) (i + (2 : Int32)) ∧ True)))) := hok
  refine lv_aload_n hx hb dX10_isPair_0 rfl (lv_at hl 0 rfl) ?_
  refine lv_iconst (v := (1 : Int32)) hx hb dX10_isPair_1 (by decide) ?_
  refine lv_iload_n hx hb dX10_isPair_2 rfl (lv_at hl 1 rfl) ?_
  refine lv_iconst (v := (1 : Int32)) hx hb dX10_isPair_3 (by decide) ?_
  refine lv_iadd hx hb dX10_isPair_4 ?_
  have k_1 := hok.1
  have hok := hok.2
  refine w_V (own := RX10) (cs := [wMo G dh0 dh1 dh2 dh3 dh4 dh5 dh6 dh7 d]) (rs := []) (As := [.int (1 : Int32), .int (i + (1 : Int32))]) (rest := []) (c_X10_isNumber l G dh0 dh1 dh2 dh3 dh4 dh5 dh6 dh7 s.heap.size d (1 : Int32) (i + (1 : Int32)) k_1) ⟨hx, hb, hml, hown, hts⟩ g_X10_197 hdv_X10_isNumber hK hST hS hP hD hA [0] [] rfl rfl rfl (k0 := 0) rfl rfl rfl ⟨Nat.le_of_ble_eq_true rfl, Nat.le_of_ble_eq_true rfl⟩ ⟨Nat.le_of_ble_eq_true rfl, Nat.le_of_ble_eq_true rfl⟩ rfl hl.1 rfl (Nat.le_of_ble_eq_true rfl) dX10_isPair_5 (fun u_3 H locs huu hP hD hS => ?_)
  obtain ⟨huu, b_2⟩ := huu
  rw [← huu] at b_2
  have eu_3 := huu
  have hP : va_P G.1 vwCl (fl [wMo G dh0 dh1 dh2 dh3 dh4 dh5 dh6 dh7 u_3.2]) H := hP
  have hD : va_D A (fl [wMo G dh0 dh1 dh2 dh3 dh4 dh5 dh6 dh7 u_3.2]) := hD
  refine W.eq (g2 := F0 m 8 ls [.int u_3.1]) rfl ?_
  have hF : f_X10_isPair d i = (if u_3.1 = (0 : Int32) then ((0 : Int32), u_3.2) else (let u_7 : Int32 × MoV := (f_X10_isNumber u_3.2 (1 : Int32) (i + (2 : Int32))); (if u_7.1 = (0 : Int32) then ((0 : Int32), u_7.2) else ((1 : Int32), u_7.2)))) := by subst eu_3; exact hF
  have hok : (if u_3.1 = (0 : Int32) then True else (ok_X10_isNumber u_3.2 (1 : Int32) (i + (2 : Int32)) ∧ True)) := by subst eu_3; exact hok
  refine lv_if_eq (tgt := 26) hx hb dX10_isPair_8 (by decide) (fun c_4 => ?_) (fun c_4 => ?_)
  · have hF := hF.trans (if_pos c_4)
    have hok := Eq.mp (if_pos c_4) hok
    refine lv_iconst (v := (0 : Int32)) hx hb dX10_isPair_26 (by decide) ?_
    exact w_ret (u := ((0 : Int32), u_3.2)) hx hb hr hlk rfl hS rfl ⟨hF.symm, (by rw [hF]; exact (rfl : narrow .boolean (.int (0 : Int32)) = .int (0 : Int32)))⟩ hP hD (Nat.le_of_ble_eq_true rfl) (Nat.le_of_ble_eq_true rfl) dX10_isPair_27
  · have hF := hF.trans (if_neg c_4)
    have hok := Eq.mp (if_neg c_4) hok
    refine lv_aload_n hx hb dX10_isPair_11 rfl (lv_at hl 0 rfl) ?_
    refine lv_iconst (v := (1 : Int32)) hx hb dX10_isPair_12 (by decide) ?_
    refine lv_iload_n hx hb dX10_isPair_13 rfl (lv_at hl 1 rfl) ?_
    refine lv_iconst (v := (2 : Int32)) hx hb dX10_isPair_14 (by decide) ?_
    refine lv_iadd hx hb dX10_isPair_15 ?_
    have k_5 := hok.1
    have hok := hok.2
    refine w_V (own := RX10) (cs := [wMo G dh0 dh1 dh2 dh3 dh4 dh5 dh6 dh7 u_3.2]) (rs := []) (As := [.int (1 : Int32), .int (i + (2 : Int32))]) (rest := []) (c_X10_isNumber l G dh0 dh1 dh2 dh3 dh4 dh5 dh6 dh7 H.size u_3.2 (1 : Int32) (i + (2 : Int32)) k_5) ⟨hx, hb, hml, hown, hts⟩ g_X10_197 hdv_X10_isNumber hK hST hS hP hD hA [0] [] rfl rfl rfl (k0 := 0) rfl rfl rfl ⟨Nat.le_of_ble_eq_true rfl, Nat.le_of_ble_eq_true rfl⟩ ⟨Nat.le_of_ble_eq_true rfl, Nat.le_of_ble_eq_true rfl⟩ rfl hl.1 rfl (Nat.le_of_ble_eq_true rfl) dX10_isPair_16 (fun u_7 H locs huu hP hD hS => ?_)
    obtain ⟨huu, b_6⟩ := huu
    rw [← huu] at b_6
    have eu_7 := huu
    have hP : va_P G.1 vwCl (fl [wMo G dh0 dh1 dh2 dh3 dh4 dh5 dh6 dh7 u_7.2]) H := hP
    have hD : va_D A (fl [wMo G dh0 dh1 dh2 dh3 dh4 dh5 dh6 dh7 u_7.2]) := hD
    refine W.eq (g2 := F0 m 19 ls [.int u_7.1]) rfl ?_
    have hF : f_X10_isPair d i = (if u_7.1 = (0 : Int32) then ((0 : Int32), u_7.2) else ((1 : Int32), u_7.2)) := by subst eu_7; exact hF
    refine lv_if_eq (tgt := 26) hx hb dX10_isPair_19 (by decide) (fun c_8 => ?_) (fun c_8 => ?_)
    · have hF := hF.trans (if_pos c_8)
      refine lv_iconst (v := (0 : Int32)) hx hb dX10_isPair_26 (by decide) ?_
      exact w_ret (u := ((0 : Int32), u_7.2)) hx hb hr hlk rfl hS rfl ⟨hF.symm, (by rw [hF]; exact (rfl : narrow .boolean (.int (0 : Int32)) = .int (0 : Int32)))⟩ hP hD (Nat.le_of_ble_eq_true rfl) (Nat.le_of_ble_eq_true rfl) dX10_isPair_27
    · have hF := hF.trans (if_neg c_8)
      refine lv_iconst (v := (1 : Int32)) hx hb dX10_isPair_22 (by decide) ?_
      refine lv_goto (tgt := 27) hx hb dX10_isPair_23 (by decide) ?_
      exact w_ret (u := ((1 : Int32), u_7.2)) hx hb hr hlk rfl hS rfl ⟨hF.symm, (by rw [hF]; exact (rfl : narrow .boolean (.int (1 : Int32)) = .int (1 : Int32)))⟩ hP hD (Nat.le_of_ble_eq_true rfl) (Nat.le_of_ble_eq_true rfl) dX10_isPair_27
theorem dX10_isDoorDay_0 : decode cX10_isDoorDay 0 = .ok (.aload_n 0, 1) := by decide +kernel
theorem dX10_isDoorDay_1 : decode cX10_isDoorDay 1 = .ok (.iconst 1, 1) := by decide +kernel
theorem dX10_isDoorDay_2 : decode cX10_isDoorDay 2 = .ok (.iload_n 1, 1) := by decide +kernel
theorem dX10_isDoorDay_3 : decode cX10_isDoorDay 3 = .ok (.iconst 1, 1) := by decide +kernel
theorem dX10_isDoorDay_4 : decode cX10_isDoorDay 4 = .ok (.iadd, 1) := by decide +kernel
theorem dX10_isDoorDay_5 : decode cX10_isDoorDay 5 = .ok (.invokevirtual 197, 3) := by decide +kernel
theorem dX10_isDoorDay_8 : decode cX10_isDoorDay 8 = .ok (.ifCond .eq 27, 3) := by decide +kernel
theorem dX10_isDoorDay_35 : decode cX10_isDoorDay 35 = .ok (.iconst 0, 1) := by decide +kernel
theorem dX10_isDoorDay_36 : decode cX10_isDoorDay 36 = .ok (.ireturn, 1) := by decide +kernel
theorem dX10_isDoorDay_11 : decode cX10_isDoorDay 11 = .ok (.aload_n 0, 1) := by decide +kernel
theorem dX10_isDoorDay_12 : decode cX10_isDoorDay 12 = .ok (.bipush 32, 2) := by decide +kernel
theorem dX10_isDoorDay_14 : decode cX10_isDoorDay 14 = .ok (.invokevirtual 194, 3) := by decide +kernel
theorem dX10_isDoorDay_17 : decode cX10_isDoorDay 17 = .ok (.ifCond .eq 18, 3) := by decide +kernel
theorem dX10_isDoorDay_20 : decode cX10_isDoorDay 20 = .ok (.aload_n 0, 1) := by decide +kernel
theorem dX10_isDoorDay_21 : decode cX10_isDoorDay 21 = .ok (.iconst 3, 1) := by decide +kernel
theorem dX10_isDoorDay_22 : decode cX10_isDoorDay 22 = .ok (.iload_n 1, 1) := by decide +kernel
theorem dX10_isDoorDay_23 : decode cX10_isDoorDay 23 = .ok (.iconst 2, 1) := by decide +kernel
theorem dX10_isDoorDay_24 : decode cX10_isDoorDay 24 = .ok (.iadd, 1) := by decide +kernel
theorem dX10_isDoorDay_25 : decode cX10_isDoorDay 25 = .ok (.invokevirtual 197, 3) := by decide +kernel
theorem dX10_isDoorDay_28 : decode cX10_isDoorDay 28 = .ok (.ifCond .eq 7, 3) := by decide +kernel
theorem dX10_isDoorDay_31 : decode cX10_isDoorDay 31 = .ok (.iconst 1, 1) := by decide +kernel
theorem dX10_isDoorDay_32 : decode cX10_isDoorDay 32 = .ok (.goto 4, 3) := by decide +kernel
def f_X10_isDoorDay (d : MoV) (i : Int32) : Int32 × MoV := (let u_3 : Int32 × MoV := (f_X10_isNumber d (1 : Int32) (i + (1 : Int32))); (if u_3.1 = (0 : Int32) then ((0 : Int32), u_3.2) else (let u_7 : Int32 × MoV := (f_X10_isSign u_3.2 (32 : Int32)); (if u_7.1 = (0 : Int32) then ((0 : Int32), u_7.2) else (let u_11 : Int32 × MoV := (f_X10_isNumber u_7.2 (3 : Int32) (i + (2 : Int32))); (if u_11.1 = (0 : Int32) then ((0 : Int32), u_11.2) else ((1 : Int32), u_11.2)))))))
def ok_X10_isDoorDay (d : MoV) (i : Int32) : Prop := (ok_X10_isNumber d (1 : Int32) (i + (1 : Int32)) ∧ (let u_3 : Int32 × MoV := (f_X10_isNumber d (1 : Int32) (i + (1 : Int32))); (if u_3.1 = (0 : Int32) then True else (ok_X10_isSign u_3.2 (32 : Int32) ∧ (let u_7 : Int32 × MoV := (f_X10_isSign u_3.2 (32 : Int32)); (if u_7.1 = (0 : Int32) then True else (ok_X10_isNumber u_7.2 (3 : Int32) (i + (2 : Int32)) ∧ True)))))))
set_option maxHeartbeats 4000000 in
set_option maxRecDepth 100000 in
theorem c_X10_isDoorDay (l : Launch) (G : GG) (dh0 : Nat) (dh1 : Nat) (dh2 : Nat) (dh3 : Nat) (dh4 : Nat) (dh5 : Nat) (dh6 : Nat) (dh7 : Nat) (sz : Nat) (d : MoV) (i : Int32) (hok : ok_X10_isDoorDay d i) : wMet l yX10_isDoorDay cX10_isDoorDay 2 (some .boolean) 3 0 0 G (fl [wMo G dh0 dh1 dh2 dh3 dh4 dh5 dh6 dh7 d]) [.ref dh0, .int i] sz (fun u : Int32 × MoV => some (.int u.1)) (fun u : Int32 × MoV => u = f_X10_isDoorDay d i ∧ narrow .boolean (.int ((f_X10_isDoorDay d i).1)) = .int ((f_X10_isDoorDay d i).1)) (fun u : Int32 × MoV => fl [wMo G dh0 dh1 dh2 dh3 dh4 dh5 dh6 dh7 u.2]) := by
  refine w_start (by decide +kernel) (Nat.le_of_ble_eq_true rfl) ?_
  intro p e s m below meth c A hx hb hr hml hts hown hlk hin hP hD hA hK hST ls hl
  have hS : va_S A s.heap s.heap [] := va_S.rf
  have hown : s.vm.findClass RX10 = some m.cls := hown
  have hl : lv_has ls 2 [(0, .ref dh0), (1, .int i)] := hl
  have hF : f_X10_isDoorDay d i = (let u_3 : Int32 × MoV := (f_X10_isNumber d (1 : Int32) (i + (1 : Int32))); (if u_3.1 = (0 : Int32) then ((0 : Int32), u_3.2) else (let u_7 : Int32 × MoV := (f_X10_isSign u_3.2 (32 : Int32)); (if u_7.1 = (0 : Int32) then ((0 : Int32), u_7.2) else (let u_11 : Int32 × MoV := (f_X10_isNumber u_7.2 (3 : Int32) (i + (2 : Int32))); (if u_11.1 = (0 : Int32) then ((0 : Int32), u_11.2) else ((1 : Int32), u_11.2))))))) := rfl
  have hok : (ok_X10_isNumber d (1 : Int32) (i + (1 : Int32)) ∧ (let u_3 : Int32 × MoV := (f_X10_isNumber d (1 : Int32) (i + (1 : Int32))); (if u_3.1 = (0 : Int32) then True else (ok_X10_isSign u_3.2 (32 : Int32) ∧ (let u_7 : Int32 × MoV := (f_X10_isSign u_3.2 (32 : Int32)); (if u_7.1 = (0 : Int32) then True else (ok_X10_isNumber u_7.2 (3 : Int32) (i + (2 : Int32)) ∧ True))))))) := hok
  refine lv_aload_n hx hb dX10_isDoorDay_0 rfl (lv_at hl 0 rfl) ?_
  refine lv_iconst (v := (1 : Int32)) hx hb dX10_isDoorDay_1 (by decide) ?_
  refine lv_iload_n hx hb dX10_isDoorDay_2 rfl (lv_at hl 1 rfl) ?_
  refine lv_iconst (v := (1 : Int32)) hx hb dX10_isDoorDay_3 (by decide) ?_
  refine lv_iadd hx hb dX10_isDoorDay_4 ?_
  have k_1 := hok.1
  have hok := hok.2
  refine w_V (own := RX10) (cs := [wMo G dh0 dh1 dh2 dh3 dh4 dh5 dh6 dh7 d]) (rs := []) (As := [.int (1 : Int32), .int (i + (1 : Int32))]) (rest := []) (c_X10_isNumber l G dh0 dh1 dh2 dh3 dh4 dh5 dh6 dh7 s.heap.size d (1 : Int32) (i + (1 : Int32)) k_1) ⟨hx, hb, hml, hown, hts⟩ g_X10_197 hdv_X10_isNumber hK hST hS hP hD hA [0] [] rfl rfl rfl (k0 := 0) rfl rfl rfl ⟨Nat.le_of_ble_eq_true rfl, Nat.le_of_ble_eq_true rfl⟩ ⟨Nat.le_of_ble_eq_true rfl, Nat.le_of_ble_eq_true rfl⟩ rfl hl.1 rfl (Nat.le_of_ble_eq_true rfl) dX10_isDoorDay_5 (fun u_3 H locs huu hP hD hS => ?_)
  obtain ⟨huu, b_2⟩ := huu
  rw [← huu] at b_2
  have eu_3 := huu
  have hP : va_P G.1 vwCl (fl [wMo G dh0 dh1 dh2 dh3 dh4 dh5 dh6 dh7 u_3.2]) H := hP
  have hD : va_D A (fl [wMo G dh0 dh1 dh2 dh3 dh4 dh5 dh6 dh7 u_3.2]) := hD
  refine W.eq (g2 := F0 m 8 ls [.int u_3.1]) rfl ?_
  have hF : f_X10_isDoorDay d i = (if u_3.1 = (0 : Int32) then ((0 : Int32), u_3.2) else (let u_7 : Int32 × MoV := (f_X10_isSign u_3.2 (32 : Int32)); (if u_7.1 = (0 : Int32) then ((0 : Int32), u_7.2) else (let u_11 : Int32 × MoV := (f_X10_isNumber u_7.2 (3 : Int32) (i + (2 : Int32))); (if u_11.1 = (0 : Int32) then ((0 : Int32), u_11.2) else ((1 : Int32), u_11.2)))))) := by subst eu_3; exact hF
  have hok : (if u_3.1 = (0 : Int32) then True else (ok_X10_isSign u_3.2 (32 : Int32) ∧ (let u_7 : Int32 × MoV := (f_X10_isSign u_3.2 (32 : Int32)); (if u_7.1 = (0 : Int32) then True else (ok_X10_isNumber u_7.2 (3 : Int32) (i + (2 : Int32)) ∧ True))))) := by subst eu_3; exact hok
  refine lv_if_eq (tgt := 35) hx hb dX10_isDoorDay_8 (by decide) (fun c_4 => ?_) (fun c_4 => ?_)
  · have hF := hF.trans (if_pos c_4)
    have hok := Eq.mp (if_pos c_4) hok
    refine lv_iconst (v := (0 : Int32)) hx hb dX10_isDoorDay_35 (by decide) ?_
    exact w_ret (u := ((0 : Int32), u_3.2)) hx hb hr hlk rfl hS rfl ⟨hF.symm, (by rw [hF]; exact (rfl : narrow .boolean (.int (0 : Int32)) = .int (0 : Int32)))⟩ hP hD (Nat.le_of_ble_eq_true rfl) (Nat.le_of_ble_eq_true rfl) dX10_isDoorDay_36
  · have hF := hF.trans (if_neg c_4)
    have hok := Eq.mp (if_neg c_4) hok
    refine lv_aload_n hx hb dX10_isDoorDay_11 rfl (lv_at hl 0 rfl) ?_
    refine lv_bipush (v := (32 : Int32)) hx hb dX10_isDoorDay_12 (by decide) ?_
    have k_5 := hok.1
    have hok := hok.2
    refine w_V (own := RX10) (cs := [wMo G dh0 dh1 dh2 dh3 dh4 dh5 dh6 dh7 u_3.2]) (rs := []) (As := [.int (32 : Int32)]) (rest := []) (c_X10_isSign l G dh0 dh1 dh2 dh3 dh4 dh5 dh6 dh7 H.size u_3.2 (32 : Int32) k_5) ⟨hx, hb, hml, hown, hts⟩ g_X10_194 hdv_X10_isSign hK hST hS hP hD hA [0] [] rfl rfl rfl (k0 := 0) rfl rfl rfl ⟨Nat.le_of_ble_eq_true rfl, Nat.le_of_ble_eq_true rfl⟩ ⟨Nat.le_of_ble_eq_true rfl, Nat.le_of_ble_eq_true rfl⟩ rfl hl.1 rfl (Nat.le_of_ble_eq_true rfl) dX10_isDoorDay_14 (fun u_7 H locs huu hP hD hS => ?_)
    obtain ⟨huu, b_6⟩ := huu
    rw [← huu] at b_6
    have eu_7 := huu
    have hP : va_P G.1 vwCl (fl [wMo G dh0 dh1 dh2 dh3 dh4 dh5 dh6 dh7 u_7.2]) H := hP
    have hD : va_D A (fl [wMo G dh0 dh1 dh2 dh3 dh4 dh5 dh6 dh7 u_7.2]) := hD
    refine W.eq (g2 := F0 m 17 ls [.int u_7.1]) rfl ?_
    have hF : f_X10_isDoorDay d i = (if u_7.1 = (0 : Int32) then ((0 : Int32), u_7.2) else (let u_11 : Int32 × MoV := (f_X10_isNumber u_7.2 (3 : Int32) (i + (2 : Int32))); (if u_11.1 = (0 : Int32) then ((0 : Int32), u_11.2) else ((1 : Int32), u_11.2)))) := by subst eu_7; exact hF
    have hok : (if u_7.1 = (0 : Int32) then True else (ok_X10_isNumber u_7.2 (3 : Int32) (i + (2 : Int32)) ∧ True)) := by subst eu_7; exact hok
    refine lv_if_eq (tgt := 35) hx hb dX10_isDoorDay_17 (by decide) (fun c_8 => ?_) (fun c_8 => ?_)
    · have hF := hF.trans (if_pos c_8)
      have hok := Eq.mp (if_pos c_8) hok
      refine lv_iconst (v := (0 : Int32)) hx hb dX10_isDoorDay_35 (by decide) ?_
      exact w_ret (u := ((0 : Int32), u_7.2)) hx hb hr hlk rfl hS rfl ⟨hF.symm, (by rw [hF]; exact (rfl : narrow .boolean (.int (0 : Int32)) = .int (0 : Int32)))⟩ hP hD (Nat.le_of_ble_eq_true rfl) (Nat.le_of_ble_eq_true rfl) dX10_isDoorDay_36
    · have hF := hF.trans (if_neg c_8)
      have hok := Eq.mp (if_neg c_8) hok
      refine lv_aload_n hx hb dX10_isDoorDay_20 rfl (lv_at hl 0 rfl) ?_
      refine lv_iconst (v := (3 : Int32)) hx hb dX10_isDoorDay_21 (by decide) ?_
      refine lv_iload_n hx hb dX10_isDoorDay_22 rfl (lv_at hl 1 rfl) ?_
      refine lv_iconst (v := (2 : Int32)) hx hb dX10_isDoorDay_23 (by decide) ?_
      refine lv_iadd hx hb dX10_isDoorDay_24 ?_
      have k_9 := hok.1
      have hok := hok.2
      refine w_V (own := RX10) (cs := [wMo G dh0 dh1 dh2 dh3 dh4 dh5 dh6 dh7 u_7.2]) (rs := []) (As := [.int (3 : Int32), .int (i + (2 : Int32))]) (rest := []) (c_X10_isNumber l G dh0 dh1 dh2 dh3 dh4 dh5 dh6 dh7 H.size u_7.2 (3 : Int32) (i + (2 : Int32)) k_9) ⟨hx, hb, hml, hown, hts⟩ g_X10_197 hdv_X10_isNumber hK hST hS hP hD hA [0] [] rfl rfl rfl (k0 := 0) rfl rfl rfl ⟨Nat.le_of_ble_eq_true rfl, Nat.le_of_ble_eq_true rfl⟩ ⟨Nat.le_of_ble_eq_true rfl, Nat.le_of_ble_eq_true rfl⟩ rfl hl.1 rfl (Nat.le_of_ble_eq_true rfl) dX10_isDoorDay_25 (fun u_11 H locs huu hP hD hS => ?_)
      obtain ⟨huu, b_10⟩ := huu
      rw [← huu] at b_10
      have eu_11 := huu
      have hP : va_P G.1 vwCl (fl [wMo G dh0 dh1 dh2 dh3 dh4 dh5 dh6 dh7 u_11.2]) H := hP
      have hD : va_D A (fl [wMo G dh0 dh1 dh2 dh3 dh4 dh5 dh6 dh7 u_11.2]) := hD
      refine W.eq (g2 := F0 m 28 ls [.int u_11.1]) rfl ?_
      have hF : f_X10_isDoorDay d i = (if u_11.1 = (0 : Int32) then ((0 : Int32), u_11.2) else ((1 : Int32), u_11.2)) := by subst eu_11; exact hF
      refine lv_if_eq (tgt := 35) hx hb dX10_isDoorDay_28 (by decide) (fun c_12 => ?_) (fun c_12 => ?_)
      · have hF := hF.trans (if_pos c_12)
        refine lv_iconst (v := (0 : Int32)) hx hb dX10_isDoorDay_35 (by decide) ?_
        exact w_ret (u := ((0 : Int32), u_11.2)) hx hb hr hlk rfl hS rfl ⟨hF.symm, (by rw [hF]; exact (rfl : narrow .boolean (.int (0 : Int32)) = .int (0 : Int32)))⟩ hP hD (Nat.le_of_ble_eq_true rfl) (Nat.le_of_ble_eq_true rfl) dX10_isDoorDay_36
      · have hF := hF.trans (if_neg c_12)
        refine lv_iconst (v := (1 : Int32)) hx hb dX10_isDoorDay_31 (by decide) ?_
        refine lv_goto (tgt := 36) hx hb dX10_isDoorDay_32 (by decide) ?_
        exact w_ret (u := ((1 : Int32), u_11.2)) hx hb hr hlk rfl hS rfl ⟨hF.symm, (by rw [hF]; exact (rfl : narrow .boolean (.int (1 : Int32)) = .int (1 : Int32)))⟩ hP hD (Nat.le_of_ble_eq_true rfl) (Nat.le_of_ble_eq_true rfl) dX10_isDoorDay_36
