theorem dX10_ends_0 : decode cX10_ends 0 = .ok (.aload_n 0, 1) := by decide +kernel
theorem dX10_ends_1 : decode cX10_ends 1 = .ok (.getfield 38, 3) := by decide +kernel
theorem dX10_ends_4 : decode cX10_ends 4 = .ok (.ifCond .eq 5, 3) := by decide +kernel
theorem dX10_ends_9 : decode cX10_ends 9 = .ok (.aload_n 0, 1) := by decide +kernel
theorem dX10_ends_10 : decode cX10_ends 10 = .ok (.getfield 45, 3) := by decide +kernel
theorem u_1684 : Cond.fieldLink RX10 45 "MoonlitDoorsModel" "changes" "I" ∈ UW := uw 1684 (by decide +kernel) rfl
theorem dX10_ends_13 : decode cX10_ends 13 = .ok (.bipush 8, 2) := by decide +kernel
theorem dX10_ends_15 : decode cX10_ends 15 = .ok (.if_icmp .ne 50, 3) := by decide +kernel
theorem dX10_ends_65 : decode cX10_ends 65 = .ok (.aload_n 0, 1) := by decide +kernel
theorem dX10_ends_66 : decode cX10_ends 66 = .ok (.getfield 13, 3) := by decide +kernel
theorem dX10_ends_69 : decode cX10_ends 69 = .ok (.iconst 0, 1) := by decide +kernel
theorem dX10_ends_70 : decode cX10_ends 70 = .ok (.aload_n 0, 1) := by decide +kernel
theorem dX10_ends_71 : decode cX10_ends 71 = .ok (.getfield 19, 3) := by decide +kernel
theorem u_1683 : Cond.fieldLink RX10 19 "MoonlitDoorsModel" "past" "[I" ∈ UW := uw 1683 (by decide +kernel) rfl
theorem dX10_ends_74 : decode cX10_ends 74 = .ok (.sipush 249, 3) := by decide +kernel
theorem dX10_ends_77 : decode cX10_ends 77 = .ok (.aload_n 0, 1) := by decide +kernel
theorem dX10_ends_78 : decode cX10_ends 78 = .ok (.getfield 45, 3) := by decide +kernel
theorem dX10_ends_81 : decode cX10_ends 81 = .ok (.imul, 1) := by decide +kernel
theorem dX10_ends_82 : decode cX10_ends 82 = .ok (.invokestatic 41, 3) := by decide +kernel
theorem dX10_ends_85 : decode cX10_ends 85 = .ok (.aload_n 0, 1) := by decide +kernel
theorem dX10_ends_86 : decode cX10_ends 86 = .ok (.dup, 1) := by decide +kernel
theorem dX10_ends_87 : decode cX10_ends 87 = .ok (.getfield 45, 3) := by decide +kernel
theorem dX10_ends_90 : decode cX10_ends 90 = .ok (.iconst 1, 1) := by decide +kernel
theorem dX10_ends_91 : decode cX10_ends 91 = .ok (.iadd, 1) := by decide +kernel
theorem dX10_ends_92 : decode cX10_ends 92 = .ok (.putfield 45, 3) := by decide +kernel
theorem dX10_ends_95 : decode cX10_ends 95 = .ok (.iload_n 1, 1) := by decide +kernel
theorem dX10_ends_96 : decode cX10_ends 96 = .ok (.ireturn, 1) := by decide +kernel
theorem dX10_ends_18 : decode cX10_ends 18 = .ok (.iconst 1, 1) := by decide +kernel
theorem dX10_ends_19 : decode cX10_ends 19 = .ok (.istore_n 2, 1) := by decide +kernel
theorem dX10_ends_20 : decode cX10_ends 20 = .ok (.iload_n 2, 1) := by decide +kernel
theorem dX10_ends_21 : decode cX10_ends 21 = .ok (.bipush 8, 2) := by decide +kernel
theorem dX10_ends_23 : decode cX10_ends 23 = .ok (.if_icmp .ge 32, 3) := by decide +kernel
theorem dX10_ends_55 : decode cX10_ends 55 = .ok (.aload_n 0, 1) := by decide +kernel
theorem dX10_ends_56 : decode cX10_ends 56 = .ok (.dup, 1) := by decide +kernel
theorem dX10_ends_57 : decode cX10_ends 57 = .ok (.getfield 45, 3) := by decide +kernel
theorem dX10_ends_60 : decode cX10_ends 60 = .ok (.iconst 1, 1) := by decide +kernel
theorem dX10_ends_61 : decode cX10_ends 61 = .ok (.isub, 1) := by decide +kernel
theorem dX10_ends_62 : decode cX10_ends 62 = .ok (.putfield 45, 3) := by decide +kernel
theorem dX10_ends_26 : decode cX10_ends 26 = .ok (.aload_n 0, 1) := by decide +kernel
theorem dX10_ends_27 : decode cX10_ends 27 = .ok (.getfield 19, 3) := by decide +kernel
theorem dX10_ends_30 : decode cX10_ends 30 = .ok (.sipush 249, 3) := by decide +kernel
theorem dX10_ends_33 : decode cX10_ends 33 = .ok (.iload_n 2, 1) := by decide +kernel
theorem dX10_ends_34 : decode cX10_ends 34 = .ok (.imul, 1) := by decide +kernel
theorem dX10_ends_35 : decode cX10_ends 35 = .ok (.aload_n 0, 1) := by decide +kernel
theorem dX10_ends_36 : decode cX10_ends 36 = .ok (.getfield 19, 3) := by decide +kernel
theorem dX10_ends_39 : decode cX10_ends 39 = .ok (.sipush 249, 3) := by decide +kernel
theorem dX10_ends_42 : decode cX10_ends 42 = .ok (.iload_n 2, 1) := by decide +kernel
theorem dX10_ends_43 : decode cX10_ends 43 = .ok (.iconst 1, 1) := by decide +kernel
theorem dX10_ends_44 : decode cX10_ends 44 = .ok (.isub, 1) := by decide +kernel
theorem dX10_ends_45 : decode cX10_ends 45 = .ok (.imul, 1) := by decide +kernel
theorem dX10_ends_46 : decode cX10_ends 46 = .ok (.invokestatic 41, 3) := by decide +kernel
theorem dX10_ends_49 : decode cX10_ends 49 = .ok (.iinc 2 1, 3) := by decide +kernel
theorem dX10_ends_52 : decode cX10_ends 52 = .ok (.goto (-32), 3) := by decide +kernel
theorem dX10_ends_7 : decode cX10_ends 7 = .ok (.iconst 0, 1) := by decide +kernel
theorem dX10_ends_8 : decode cX10_ends 8 = .ok (.ireturn, 1) := by decide +kernel
def lp_X10_ends_20 (d : MoV) (told : Int32) : Nat → Int32 → MoV → Int32 × MoV
  | 0, _, _ => (0, d)
  | n + 1, x2, dL => (if (8 : Int32) ≤ x2 then (let u_9 : (Nat → Int32) := (f_X10_copies 249 dL.2.1 (0 : Int32) 1992 dL.2.2.2.1 ((249 : Int32) * (dL.2.2.2.2.1 - (1 : Int32)))); (told, (mo4 (mo3 dL u_9) ((dL.2.2.2.2.1 - (1 : Int32)) + (1 : Int32))))) else (let u_12 : (Nat → Int32) := (f_X10_copies2 1992 dL.2.2.2.1 ((249 : Int32) * x2) ((249 : Int32) * (x2 - (1 : Int32)))); (lp_X10_ends_20 d told n (x2 + 1) (mo3 dL u_12))))
def okl_lp_X10_ends_20 (d : MoV) (told : Int32) : Nat → Int32 → MoV → Prop
  | 0, _, _ => True
  | n + 1, x2, dL => (if (8 : Int32) ≤ x2 then (ok_X10_copies 249 dL.2.1 (0 : Int32) 1992 dL.2.2.2.1 ((249 : Int32) * (dL.2.2.2.2.1 - (1 : Int32))) ∧ True) else (ok_X10_copies2 1992 dL.2.2.2.1 ((249 : Int32) * x2) ((249 : Int32) * (x2 - (1 : Int32))) ∧ (let u_12 : (Nat → Int32) := (f_X10_copies2 1992 dL.2.2.2.1 ((249 : Int32) * x2) ((249 : Int32) * (x2 - (1 : Int32)))); (okl_lp_X10_ends_20 d told n (x2 + 1) (mo3 dL u_12)))))
def f_X10_ends (d : MoV) (told : Int32) : Int32 × MoV := (if d.2.2.2.2.2.1 = (0 : Int32) then (if d.2.2.2.2.1 = (8 : Int32) then (lp_X10_ends_20 d told ((((8 : Int32)).toInt - ((1 : Int32)).toInt).toNat + 1) (1 : Int32) d) else (let u_5 : (Nat → Int32) := (f_X10_copies 249 d.2.1 (0 : Int32) 1992 d.2.2.2.1 ((249 : Int32) * d.2.2.2.2.1)); (told, (mo4 (mo3 d u_5) (d.2.2.2.2.1 + (1 : Int32)))))) else ((0 : Int32), d))
def ok_X10_ends (d : MoV) (told : Int32) : Prop := (if d.2.2.2.2.2.1 = (0 : Int32) then (if d.2.2.2.2.1 = (8 : Int32) then (okl_lp_X10_ends_20 d told ((((8 : Int32)).toInt - ((1 : Int32)).toInt).toNat + 1) (1 : Int32) d) else (ok_X10_copies 249 d.2.1 (0 : Int32) 1992 d.2.2.2.1 ((249 : Int32) * d.2.2.2.2.1) ∧ True)) else True)
set_option maxHeartbeats 4000000 in
set_option maxRecDepth 100000 in
theorem c_X10_ends (l : Launch) (G : GG) (dh0 : Nat) (dh1 : Nat) (dh2 : Nat) (dh3 : Nat) (dh4 : Nat) (dh5 : Nat) (dh6 : Nat) (dh7 : Nat) (sz : Nat) (d : MoV) (told : Int32) (hok : ok_X10_ends d told) : wMet l yX10_ends cX10_ends 3 (some .int) 2 0 0 G (fl [wMo G dh0 dh1 dh2 dh3 dh4 dh5 dh6 dh7 d]) [.ref dh0, .int told] sz (fun u : Int32 × MoV => some (.int u.1)) (fun u : Int32 × MoV => u = f_X10_ends d told) (fun u : Int32 × MoV => fl [wMo G dh0 dh1 dh2 dh3 dh4 dh5 dh6 dh7 u.2]) := by
  refine w_start (by decide +kernel) (Nat.le_of_ble_eq_true rfl) ?_
  intro p e s m below meth c A hx hb hr hml hts hown hlk hin hP hD hA hK hST ls hl
  have hS : va_S A s.heap s.heap [] := va_S.rf
  have hown : s.vm.findClass RX10 = some m.cls := hown
  have hl : lv_has ls 3 [(0, .ref dh0), (1, .int told)] := hl
  have hF : f_X10_ends d told = (if d.2.2.2.2.2.1 = (0 : Int32) then (if d.2.2.2.2.1 = (8 : Int32) then (lp_X10_ends_20 d told ((((8 : Int32)).toInt - ((1 : Int32)).toInt).toNat + 1) (1 : Int32) d) else (let u_5 : (Nat → Int32) := (f_X10_copies 249 d.2.1 (0 : Int32) 1992 d.2.2.2.1 ((249 : Int32) * d.2.2.2.2.1)); (told, (mo4 (mo3 d u_5) (d.2.2.2.2.1 + (1 : Int32)))))) else ((0 : Int32), d)) := rfl
  have hok : (if d.2.2.2.2.2.1 = (0 : Int32) then (if d.2.2.2.2.1 = (8 : Int32) then (okl_lp_X10_ends_20 d told ((((8 : Int32)).toInt - ((1 : Int32)).toInt).toNat + 1) (1 : Int32) d) else (ok_X10_copies 249 d.2.1 (0 : Int32) 1992 d.2.2.2.1 ((249 : Int32) * d.2.2.2.2.1) ∧ True)) else True) := hok
  refine lv_aload_n hx hb dX10_ends_0 rfl (lv_at hl 0 rfl) ?_
  refine va_get (D := G.1) (ci := 12) (v := .int d.2.2.2.2.2.1) (C := RX10) (T := TX10) (N := 17) hx hb hts uws_X10 hown hK hP 0 rfl rfl 5 (by decide) (hts _ u_1685) (fun _ h9 => h9) rfl dX10_ends_1 ?_
  refine lv_if_eq (tgt := 9) hx hb dX10_ends_4 (by decide) (fun c_1 => ?_) (fun c_1 => ?_)
  · have hF := hF.trans (if_pos c_1)
    have hok := Eq.mp (if_pos c_1) hok
    refine lv_aload_n hx hb dX10_ends_9 rfl (lv_at hl 0 rfl) ?_
    refine va_get (D := G.1) (ci := 12) (v := .int d.2.2.2.2.1) (C := RX10) (T := TX10) (N := 17) hx hb hts uws_X10 hown hK hP 0 rfl rfl 4 (by decide) (hts _ u_1684) (fun _ h9 => h9) rfl dX10_ends_10 ?_
    refine lv_bipush (v := (8 : Int32)) hx hb dX10_ends_13 (by decide) ?_
    refine lv_icmp_ne (tgt := 65) hx hb dX10_ends_15 (by decide) (fun c_2 => ?_) (fun c_2 => ?_)
    · have hF := hF.trans (if_neg c_2)
      have hok := Eq.mp (if_neg c_2) hok
      refine lv_aload_n hx hb dX10_ends_65 rfl (lv_at hl 0 rfl) ?_
      refine va_get (D := G.1) (ci := 12) (v := .ref dh2) (C := RX10) (T := TX10) (N := 17) hx hb hts uws_X10 hown hK hP 0 rfl rfl 1 (by decide) (hts _ u_1681) (fun _ h9 => h9) rfl dX10_ends_66 ?_
      refine lv_iconst (v := (0 : Int32)) hx hb dX10_ends_69 (by decide) ?_
      refine lv_aload_n hx hb dX10_ends_70 rfl (lv_at hl 0 rfl) ?_
      refine va_get (D := G.1) (ci := 12) (v := .ref dh4) (C := RX10) (T := TX10) (N := 17) hx hb hts uws_X10 hown hK hP 0 rfl rfl 3 (by decide) (hts _ u_1683) (fun _ h9 => h9) rfl dX10_ends_71 ?_
      refine lv_sipush (v := (249 : Int32)) hx hb dX10_ends_74 (by decide) ?_
      refine lv_aload_n hx hb dX10_ends_77 rfl (lv_at hl 0 rfl) ?_
      refine va_get (D := G.1) (ci := 12) (v := .int d.2.2.2.2.1) (C := RX10) (T := TX10) (N := 17) hx hb hts uws_X10 hown hK hP 0 rfl rfl 4 (by decide) (hts _ u_1684) (fun _ h9 => h9) rfl dX10_ends_78 ?_
      refine lv_imul hx hb dX10_ends_81 ?_
      have k_3 := hok.1
      have hok := hok.2
      have hP : va_P G.1 vwCl (fl [[(dh0, .inr (12, [.ref dh1, .ref dh2, .ref dh3, .ref dh4, .int d.2.2.2.2.1, .int d.2.2.2.2.2.1, .int d.2.2.2.2.2.2.1, .int d.2.2.2.2.2.2.2.1, .int d.2.2.2.2.2.2.2.2.1, .int d.2.2.2.2.2.2.2.2.2.1, .ref dh5, .int d.2.2.2.2.2.2.2.2.2.2.2.1, .ref dh6, .ref dh7, .int d.2.2.2.2.2.2.2.2.2.2.2.2.2.2.1, .int d.2.2.2.2.2.2.2.2.2.2.2.2.2.2.2.1, .int d.2.2.2.2.2.2.2.2.2.2.2.2.2.2.2.2]))], [cArr G dh1 249 d.1], [cArr G dh2 249 d.2.1], [cArr G dh3 249 d.2.2.1], [cArr G dh4 1992 d.2.2.2.1], [cArr G dh5 40 d.2.2.2.2.2.2.2.2.2.2.1], [cArr G dh6 60 d.2.2.2.2.2.2.2.2.2.2.2.2.1], [cArr G dh7 93 d.2.2.2.2.2.2.2.2.2.2.2.2.2.1]]) s.heap := hP
      have hD : va_D A (fl [[(dh0, .inr (12, [.ref dh1, .ref dh2, .ref dh3, .ref dh4, .int d.2.2.2.2.1, .int d.2.2.2.2.2.1, .int d.2.2.2.2.2.2.1, .int d.2.2.2.2.2.2.2.1, .int d.2.2.2.2.2.2.2.2.1, .int d.2.2.2.2.2.2.2.2.2.1, .ref dh5, .int d.2.2.2.2.2.2.2.2.2.2.2.1, .ref dh6, .ref dh7, .int d.2.2.2.2.2.2.2.2.2.2.2.2.2.2.1, .int d.2.2.2.2.2.2.2.2.2.2.2.2.2.2.2.1, .int d.2.2.2.2.2.2.2.2.2.2.2.2.2.2.2.2]))], [cArr G dh1 249 d.1], [cArr G dh2 249 d.2.1], [cArr G dh3 249 d.2.2.1], [cArr G dh4 1992 d.2.2.2.1], [cArr G dh5 40 d.2.2.2.2.2.2.2.2.2.2.1], [cArr G dh6 60 d.2.2.2.2.2.2.2.2.2.2.2.2.1], [cArr G dh7 93 d.2.2.2.2.2.2.2.2.2.2.2.2.2.1]]) := hD
      refine w_S (own := RX10) (cs := [[cArr G dh2 249 d.2.1], [cArr G dh4 1992 d.2.2.2.1]]) (rs := [[(dh0, .inr (12, [.ref dh1, .ref dh2, .ref dh3, .ref dh4, .int d.2.2.2.2.1, .int d.2.2.2.2.2.1, .int d.2.2.2.2.2.2.1, .int d.2.2.2.2.2.2.2.1, .int d.2.2.2.2.2.2.2.2.1, .int d.2.2.2.2.2.2.2.2.2.1, .ref dh5, .int d.2.2.2.2.2.2.2.2.2.2.2.1, .ref dh6, .ref dh7, .int d.2.2.2.2.2.2.2.2.2.2.2.2.2.2.1, .int d.2.2.2.2.2.2.2.2.2.2.2.2.2.2.2.1, .int d.2.2.2.2.2.2.2.2.2.2.2.2.2.2.2.2]))], [cArr G dh1 249 d.1], [cArr G dh3 249 d.2.2.1], [cArr G dh5 40 d.2.2.2.2.2.2.2.2.2.2.1], [cArr G dh6 60 d.2.2.2.2.2.2.2.2.2.2.2.2.1], [cArr G dh7 93 d.2.2.2.2.2.2.2.2.2.2.2.2.2.1]]) (As := [.ref dh2, .int (0 : Int32), .ref dh4, .int ((249 : Int32) * d.2.2.2.2.1)]) (rest := []) (c_X10_copies l G dh2 dh4 s.heap.size 249 d.2.1 (0 : Int32) 1992 d.2.2.2.1 ((249 : Int32) * d.2.2.2.2.1) k_3) ⟨hx, hb, hml, hown, hts⟩ g_X10_41 hds_X10_copies hK hST hS hP hD hA [2, 4] [0, 1, 3, 5, 6, 7] rfl rfl rfl ⟨Nat.le_of_ble_eq_true rfl, Nat.le_of_ble_eq_true rfl⟩ ⟨Nat.le_of_ble_eq_true rfl, Nat.le_of_ble_eq_true rfl⟩ rfl hl.1 rfl (Nat.le_of_ble_eq_true rfl) dX10_ends_82 (fun u_5 H locs huu hP hD hS => ?_)
      have eu_5 := huu
      have hP : va_P G.1 vwCl (fl [[cArr G dh2 249 d.2.1], [cArr G dh4 1992 u_5], [(dh0, .inr (12, [.ref dh1, .ref dh2, .ref dh3, .ref dh4, .int d.2.2.2.2.1, .int d.2.2.2.2.2.1, .int d.2.2.2.2.2.2.1, .int d.2.2.2.2.2.2.2.1, .int d.2.2.2.2.2.2.2.2.1, .int d.2.2.2.2.2.2.2.2.2.1, .ref dh5, .int d.2.2.2.2.2.2.2.2.2.2.2.1, .ref dh6, .ref dh7, .int d.2.2.2.2.2.2.2.2.2.2.2.2.2.2.1, .int d.2.2.2.2.2.2.2.2.2.2.2.2.2.2.2.1, .int d.2.2.2.2.2.2.2.2.2.2.2.2.2.2.2.2]))], [cArr G dh1 249 d.1], [cArr G dh3 249 d.2.2.1], [cArr G dh5 40 d.2.2.2.2.2.2.2.2.2.2.1], [cArr G dh6 60 d.2.2.2.2.2.2.2.2.2.2.2.2.1], [cArr G dh7 93 d.2.2.2.2.2.2.2.2.2.2.2.2.2.1]]) H := hP
      have hD : va_D A (fl [[cArr G dh2 249 d.2.1], [cArr G dh4 1992 u_5], [(dh0, .inr (12, [.ref dh1, .ref dh2, .ref dh3, .ref dh4, .int d.2.2.2.2.1, .int d.2.2.2.2.2.1, .int d.2.2.2.2.2.2.1, .int d.2.2.2.2.2.2.2.1, .int d.2.2.2.2.2.2.2.2.1, .int d.2.2.2.2.2.2.2.2.2.1, .ref dh5, .int d.2.2.2.2.2.2.2.2.2.2.2.1, .ref dh6, .ref dh7, .int d.2.2.2.2.2.2.2.2.2.2.2.2.2.2.1, .int d.2.2.2.2.2.2.2.2.2.2.2.2.2.2.2.1, .int d.2.2.2.2.2.2.2.2.2.2.2.2.2.2.2.2]))], [cArr G dh1 249 d.1], [cArr G dh3 249 d.2.2.1], [cArr G dh5 40 d.2.2.2.2.2.2.2.2.2.2.1], [cArr G dh6 60 d.2.2.2.2.2.2.2.2.2.2.2.2.1], [cArr G dh7 93 d.2.2.2.2.2.2.2.2.2.2.2.2.2.1]]) := hD
      refine W.eq (g2 := F0 m 85 ls []) rfl ?_
      have hF : f_X10_ends d told = (told, (mo4 (mo3 d u_5) (d.2.2.2.2.1 + (1 : Int32)))) := by subst eu_5; exact hF
      refine lv_aload_n hx hb dX10_ends_85 rfl (lv_at hl 0 rfl) ?_
      refine lv_dup hx hb dX10_ends_86 rfl ?_
      refine va_get (D := G.1) (ci := 12) (v := .int d.2.2.2.2.1) (C := RX10) (T := TX10) (N := 17) hx hb hts uws_X10 hown hK hP 2 rfl rfl 4 (by decide) (hts _ u_1684) (fun _ h9 => h9) rfl dX10_ends_87 ?_
      refine lv_iconst (v := (1 : Int32)) hx hb dX10_ends_90 (by decide) ?_
      refine lv_iadd hx hb dX10_ends_91 ?_
      refine va_put (D := G.1) (ci := 12) (v := .int (d.2.2.2.2.1 + (1 : Int32))) (ty := .int) (C := RX10) (T := TX10) (N := 17) hx hb hts uws_X10 tyX10 tyX10_ok nmX10 hown hK hP hD hS 2 rfl rfl 4 (by decide) (hts _ u_1684) (fun _ h9 => h9) rfl (by decide +kernel) rfl rfl (Nat.le_of_ble_eq_true rfl) dX10_ends_92 (fun H locs hP hD hS => ?_)
      have hP : va_P G.1 vwCl (fl [[cArr G dh2 249 d.2.1], [cArr G dh4 1992 u_5], [(dh0, .inr (12, [.ref dh1, .ref dh2, .ref dh3, .ref dh4, .int (d.2.2.2.2.1 + (1 : Int32)), .int d.2.2.2.2.2.1, .int d.2.2.2.2.2.2.1, .int d.2.2.2.2.2.2.2.1, .int d.2.2.2.2.2.2.2.2.1, .int d.2.2.2.2.2.2.2.2.2.1, .ref dh5, .int d.2.2.2.2.2.2.2.2.2.2.2.1, .ref dh6, .ref dh7, .int d.2.2.2.2.2.2.2.2.2.2.2.2.2.2.1, .int d.2.2.2.2.2.2.2.2.2.2.2.2.2.2.2.1, .int d.2.2.2.2.2.2.2.2.2.2.2.2.2.2.2.2]))], [cArr G dh1 249 d.1], [cArr G dh3 249 d.2.2.1], [cArr G dh5 40 d.2.2.2.2.2.2.2.2.2.2.1], [cArr G dh6 60 d.2.2.2.2.2.2.2.2.2.2.2.2.1], [cArr G dh7 93 d.2.2.2.2.2.2.2.2.2.2.2.2.2.1]]) H := hP
      have hD : va_D A (fl [[cArr G dh2 249 d.2.1], [cArr G dh4 1992 u_5], [(dh0, .inr (12, [.ref dh1, .ref dh2, .ref dh3, .ref dh4, .int (d.2.2.2.2.1 + (1 : Int32)), .int d.2.2.2.2.2.1, .int d.2.2.2.2.2.2.1, .int d.2.2.2.2.2.2.2.1, .int d.2.2.2.2.2.2.2.2.1, .int d.2.2.2.2.2.2.2.2.2.1, .ref dh5, .int d.2.2.2.2.2.2.2.2.2.2.2.1, .ref dh6, .ref dh7, .int d.2.2.2.2.2.2.2.2.2.2.2.2.2.2.1, .int d.2.2.2.2.2.2.2.2.2.2.2.2.2.2.2.1, .int d.2.2.2.2.2.2.2.2.2.2.2.2.2.2.2.2]))], [cArr G dh1 249 d.1], [cArr G dh3 249 d.2.2.1], [cArr G dh5 40 d.2.2.2.2.2.2.2.2.2.2.1], [cArr G dh6 60 d.2.2.2.2.2.2.2.2.2.2.2.2.1], [cArr G dh7 93 d.2.2.2.2.2.2.2.2.2.2.2.2.2.1]]) := hD
      refine lv_iload_n hx hb dX10_ends_95 rfl (lv_at hl 1 rfl) ?_
      have hP := fl_sub (cs := [[(dh0, .inr (12, [.ref dh1, .ref dh2, .ref dh3, .ref dh4, .int (d.2.2.2.2.1 + (1 : Int32)), .int d.2.2.2.2.2.1, .int d.2.2.2.2.2.2.1, .int d.2.2.2.2.2.2.2.1, .int d.2.2.2.2.2.2.2.2.1, .int d.2.2.2.2.2.2.2.2.2.1, .ref dh5, .int d.2.2.2.2.2.2.2.2.2.2.2.1, .ref dh6, .ref dh7, .int d.2.2.2.2.2.2.2.2.2.2.2.2.2.2.1, .int d.2.2.2.2.2.2.2.2.2.2.2.2.2.2.2.1, .int d.2.2.2.2.2.2.2.2.2.2.2.2.2.2.2.2]))], [cArr G dh1 249 d.1], [cArr G dh2 249 d.2.1], [cArr G dh3 249 d.2.2.1], [cArr G dh4 1992 u_5], [cArr G dh5 40 d.2.2.2.2.2.2.2.2.2.2.1], [cArr G dh6 60 d.2.2.2.2.2.2.2.2.2.2.2.2.1], [cArr G dh7 93 d.2.2.2.2.2.2.2.2.2.2.2.2.2.1]]) [2, 3, 0, 4, 1, 5, 6, 7] rfl hP
      have hD := fl_subD (cs := [[(dh0, .inr (12, [.ref dh1, .ref dh2, .ref dh3, .ref dh4, .int (d.2.2.2.2.1 + (1 : Int32)), .int d.2.2.2.2.2.1, .int d.2.2.2.2.2.2.1, .int d.2.2.2.2.2.2.2.1, .int d.2.2.2.2.2.2.2.2.1, .int d.2.2.2.2.2.2.2.2.2.1, .ref dh5, .int d.2.2.2.2.2.2.2.2.2.2.2.1, .ref dh6, .ref dh7, .int d.2.2.2.2.2.2.2.2.2.2.2.2.2.2.1, .int d.2.2.2.2.2.2.2.2.2.2.2.2.2.2.2.1, .int d.2.2.2.2.2.2.2.2.2.2.2.2.2.2.2.2]))], [cArr G dh1 249 d.1], [cArr G dh2 249 d.2.1], [cArr G dh3 249 d.2.2.1], [cArr G dh4 1992 u_5], [cArr G dh5 40 d.2.2.2.2.2.2.2.2.2.2.1], [cArr G dh6 60 d.2.2.2.2.2.2.2.2.2.2.2.2.1], [cArr G dh7 93 d.2.2.2.2.2.2.2.2.2.2.2.2.2.1]]) [2, 3, 0, 4, 1, 5, 6, 7] rfl rfl hD
      exact w_ret (u := (told, (mo4 (mo3 d u_5) (d.2.2.2.2.1 + (1 : Int32))))) hx hb hr hlk rfl hS rfl hF.symm hP hD (Nat.le_of_ble_eq_true rfl) (Nat.le_of_ble_eq_true rfl) dX10_ends_96
    · have hF := hF.trans (if_pos c_2)
      have hok := Eq.mp (if_pos c_2) hok
      refine lv_iconst (v := (1 : Int32)) hx hb dX10_ends_18 (by decide) ?_
      refine lv_istore_n (lv' := [(2, .int (1 : Int32)), (0, .ref dh0), (1, .int told)]) hx hb dX10_ends_19 rfl hl (by decide) rfl (fun ls hl => ?_)
      have L20 : ∀ (n : Nat) (x2 : Int32) (dL : MoV) (H : Heap) (locs : List Loc) (ls : Array Slot), lv_has ls 3 [(2, .int x2), (0, .ref dh0), (1, .int told)] → va_P G.1 vwCl (fl [wMo G dh0 dh1 dh2 dh3 dh4 dh5 dh6 dh7 dL]) H → va_D A (fl [wMo G dh0 dh1 dh2 dh3 dh4 dh5 dh6 dh7 dL]) → va_S A s.heap H locs → (upI x2 (8 : Int32) n) → f_X10_ends d told = lp_X10_ends_20 d told n x2 dL → okl_lp_X10_ends_20 d told n x2 dL → W p l e (rmd 2 0 0) s m ([.ref dh0, .int told] : List Value).toArray below meth c H locs 0 0 (MQ below (wQ (fun u : Int32 × MoV => some (.int u.1)) (fun u : Int32 × MoV => u = f_X10_ends d told) (fun u : Int32 × MoV => fl [wMo G dh0 dh1 dh2 dh3 dh4 dh5 dh6 dh7 u.2]) G.1 A) ([.ref dh0, .int told] : List Value).toArray s 0 0 A) (F0 m 20 ls []) := by
        intro n
        induction n with
        | zero => intro x2 dL H locs ls hl _ _ _ hu; exact absurd hu (upI_0)
        | succ n ih =>
          intro x2 dL H locs ls hl hP hD hS hu hF hok
          have hF : f_X10_ends d told = (if (8 : Int32) ≤ x2 then (let u_9 : (Nat → Int32) := (f_X10_copies 249 dL.2.1 (0 : Int32) 1992 dL.2.2.2.1 ((249 : Int32) * (dL.2.2.2.2.1 - (1 : Int32)))); (told, (mo4 (mo3 dL u_9) ((dL.2.2.2.2.1 - (1 : Int32)) + (1 : Int32))))) else (let u_12 : (Nat → Int32) := (f_X10_copies2 1992 dL.2.2.2.1 ((249 : Int32) * x2) ((249 : Int32) * (x2 - (1 : Int32)))); (lp_X10_ends_20 d told n (x2 + 1) (mo3 dL u_12)))) := hF
          have hok : (if (8 : Int32) ≤ x2 then (ok_X10_copies 249 dL.2.1 (0 : Int32) 1992 dL.2.2.2.1 ((249 : Int32) * (dL.2.2.2.2.1 - (1 : Int32))) ∧ True) else (ok_X10_copies2 1992 dL.2.2.2.1 ((249 : Int32) * x2) ((249 : Int32) * (x2 - (1 : Int32))) ∧ (let u_12 : (Nat → Int32) := (f_X10_copies2 1992 dL.2.2.2.1 ((249 : Int32) * x2) ((249 : Int32) * (x2 - (1 : Int32)))); (okl_lp_X10_ends_20 d told n (x2 + 1) (mo3 dL u_12))))) := hok
          refine lv_iload_n hx hb dX10_ends_20 rfl (lv_at hl 0 rfl) ?_
          refine lv_bipush (v := (8 : Int32)) hx hb dX10_ends_21 (by decide) ?_
          refine lv_icmp_ge (tgt := 55) hx hb dX10_ends_23 (by decide) (fun c_6 => ?_) (fun c_6 => ?_)
          · have hF := hF.trans (if_pos c_6)
            have hok := Eq.mp (if_pos c_6) hok
            refine lv_aload_n hx hb dX10_ends_55 rfl (lv_at hl 1 rfl) ?_
            refine lv_dup hx hb dX10_ends_56 rfl ?_
            refine va_get (D := G.1) (ci := 12) (v := .int dL.2.2.2.2.1) (C := RX10) (T := TX10) (N := 17) hx hb hts uws_X10 hown hK hP 0 rfl rfl 4 (by decide) (hts _ u_1684) (fun _ h9 => h9) rfl dX10_ends_57 ?_
            refine lv_iconst (v := (1 : Int32)) hx hb dX10_ends_60 (by decide) ?_
            refine lv_isub hx hb dX10_ends_61 ?_
            refine va_put (D := G.1) (ci := 12) (v := .int (dL.2.2.2.2.1 - (1 : Int32))) (ty := .int) (C := RX10) (T := TX10) (N := 17) hx hb hts uws_X10 tyX10 tyX10_ok nmX10 hown hK hP hD hS 0 rfl rfl 4 (by decide) (hts _ u_1684) (fun _ h9 => h9) rfl (by decide +kernel) rfl rfl (Nat.le_of_ble_eq_true rfl) dX10_ends_62 (fun H locs hP hD hS => ?_)
            have hP : va_P G.1 vwCl (fl [wMo G dh0 dh1 dh2 dh3 dh4 dh5 dh6 dh7 (mo4 dL (dL.2.2.2.2.1 - (1 : Int32)))]) H := hP
            have hD : va_D A (fl [wMo G dh0 dh1 dh2 dh3 dh4 dh5 dh6 dh7 (mo4 dL (dL.2.2.2.2.1 - (1 : Int32)))]) := hD
            refine lv_aload_n hx hb dX10_ends_65 rfl (lv_at hl 1 rfl) ?_
            refine va_get (D := G.1) (ci := 12) (v := .ref dh2) (C := RX10) (T := TX10) (N := 17) hx hb hts uws_X10 hown hK hP 0 rfl rfl 1 (by decide) (hts _ u_1681) (fun _ h9 => h9) rfl dX10_ends_66 ?_
            refine lv_iconst (v := (0 : Int32)) hx hb dX10_ends_69 (by decide) ?_
            refine lv_aload_n hx hb dX10_ends_70 rfl (lv_at hl 1 rfl) ?_
            refine va_get (D := G.1) (ci := 12) (v := .ref dh4) (C := RX10) (T := TX10) (N := 17) hx hb hts uws_X10 hown hK hP 0 rfl rfl 3 (by decide) (hts _ u_1683) (fun _ h9 => h9) rfl dX10_ends_71 ?_
            refine lv_sipush (v := (249 : Int32)) hx hb dX10_ends_74 (by decide) ?_
            refine lv_aload_n hx hb dX10_ends_77 rfl (lv_at hl 1 rfl) ?_
            refine va_get (D := G.1) (ci := 12) (v := .int (dL.2.2.2.2.1 - (1 : Int32))) (C := RX10) (T := TX10) (N := 17) hx hb hts uws_X10 hown hK hP 0 rfl rfl 4 (by decide) (hts _ u_1684) (fun _ h9 => h9) rfl dX10_ends_78 ?_
            refine lv_imul hx hb dX10_ends_81 ?_
            have k_7 := hok.1
            have hok := hok.2
            have hP : va_P G.1 vwCl (fl [[(dh0, .inr (12, [.ref dh1, .ref dh2, .ref dh3, .ref dh4, .int (dL.2.2.2.2.1 - (1 : Int32)), .int dL.2.2.2.2.2.1, .int dL.2.2.2.2.2.2.1, .int dL.2.2.2.2.2.2.2.1, .int dL.2.2.2.2.2.2.2.2.1, .int dL.2.2.2.2.2.2.2.2.2.1, .ref dh5, .int dL.2.2.2.2.2.2.2.2.2.2.2.1, .ref dh6, .ref dh7, .int dL.2.2.2.2.2.2.2.2.2.2.2.2.2.2.1, .int dL.2.2.2.2.2.2.2.2.2.2.2.2.2.2.2.1, .int dL.2.2.2.2.2.2.2.2.2.2.2.2.2.2.2.2]))], [cArr G dh1 249 dL.1], [cArr G dh2 249 dL.2.1], [cArr G dh3 249 dL.2.2.1], [cArr G dh4 1992 dL.2.2.2.1], [cArr G dh5 40 dL.2.2.2.2.2.2.2.2.2.2.1], [cArr G dh6 60 dL.2.2.2.2.2.2.2.2.2.2.2.2.1], [cArr G dh7 93 dL.2.2.2.2.2.2.2.2.2.2.2.2.2.1]]) H := hP
            have hD : va_D A (fl [[(dh0, .inr (12, [.ref dh1, .ref dh2, .ref dh3, .ref dh4, .int (dL.2.2.2.2.1 - (1 : Int32)), .int dL.2.2.2.2.2.1, .int dL.2.2.2.2.2.2.1, .int dL.2.2.2.2.2.2.2.1, .int dL.2.2.2.2.2.2.2.2.1, .int dL.2.2.2.2.2.2.2.2.2.1, .ref dh5, .int dL.2.2.2.2.2.2.2.2.2.2.2.1, .ref dh6, .ref dh7, .int dL.2.2.2.2.2.2.2.2.2.2.2.2.2.2.1, .int dL.2.2.2.2.2.2.2.2.2.2.2.2.2.2.2.1, .int dL.2.2.2.2.2.2.2.2.2.2.2.2.2.2.2.2]))], [cArr G dh1 249 dL.1], [cArr G dh2 249 dL.2.1], [cArr G dh3 249 dL.2.2.1], [cArr G dh4 1992 dL.2.2.2.1], [cArr G dh5 40 dL.2.2.2.2.2.2.2.2.2.2.1], [cArr G dh6 60 dL.2.2.2.2.2.2.2.2.2.2.2.2.1], [cArr G dh7 93 dL.2.2.2.2.2.2.2.2.2.2.2.2.2.1]]) := hD
            refine w_S (own := RX10) (cs := [[cArr G dh2 249 dL.2.1], [cArr G dh4 1992 dL.2.2.2.1]]) (rs := [[(dh0, .inr (12, [.ref dh1, .ref dh2, .ref dh3, .ref dh4, .int (dL.2.2.2.2.1 - (1 : Int32)), .int dL.2.2.2.2.2.1, .int dL.2.2.2.2.2.2.1, .int dL.2.2.2.2.2.2.2.1, .int dL.2.2.2.2.2.2.2.2.1, .int dL.2.2.2.2.2.2.2.2.2.1, .ref dh5, .int dL.2.2.2.2.2.2.2.2.2.2.2.1, .ref dh6, .ref dh7, .int dL.2.2.2.2.2.2.2.2.2.2.2.2.2.2.1, .int dL.2.2.2.2.2.2.2.2.2.2.2.2.2.2.2.1, .int dL.2.2.2.2.2.2.2.2.2.2.2.2.2.2.2.2]))], [cArr G dh1 249 dL.1], [cArr G dh3 249 dL.2.2.1], [cArr G dh5 40 dL.2.2.2.2.2.2.2.2.2.2.1], [cArr G dh6 60 dL.2.2.2.2.2.2.2.2.2.2.2.2.1], [cArr G dh7 93 dL.2.2.2.2.2.2.2.2.2.2.2.2.2.1]]) (As := [.ref dh2, .int (0 : Int32), .ref dh4, .int ((249 : Int32) * (dL.2.2.2.2.1 - (1 : Int32)))]) (rest := []) (c_X10_copies l G dh2 dh4 H.size 249 dL.2.1 (0 : Int32) 1992 dL.2.2.2.1 ((249 : Int32) * (dL.2.2.2.2.1 - (1 : Int32))) k_7) ⟨hx, hb, hml, hown, hts⟩ g_X10_41 hds_X10_copies hK hST hS hP hD hA [2, 4] [0, 1, 3, 5, 6, 7] rfl rfl rfl ⟨Nat.le_of_ble_eq_true rfl, Nat.le_of_ble_eq_true rfl⟩ ⟨Nat.le_of_ble_eq_true rfl, Nat.le_of_ble_eq_true rfl⟩ rfl hl.1 rfl (Nat.le_of_ble_eq_true rfl) dX10_ends_82 (fun u_9 H locs huu hP hD hS => ?_)
            have eu_9 := huu
            have hP : va_P G.1 vwCl (fl [[cArr G dh2 249 dL.2.1], [cArr G dh4 1992 u_9], [(dh0, .inr (12, [.ref dh1, .ref dh2, .ref dh3, .ref dh4, .int (dL.2.2.2.2.1 - (1 : Int32)), .int dL.2.2.2.2.2.1, .int dL.2.2.2.2.2.2.1, .int dL.2.2.2.2.2.2.2.1, .int dL.2.2.2.2.2.2.2.2.1, .int dL.2.2.2.2.2.2.2.2.2.1, .ref dh5, .int dL.2.2.2.2.2.2.2.2.2.2.2.1, .ref dh6, .ref dh7, .int dL.2.2.2.2.2.2.2.2.2.2.2.2.2.2.1, .int dL.2.2.2.2.2.2.2.2.2.2.2.2.2.2.2.1, .int dL.2.2.2.2.2.2.2.2.2.2.2.2.2.2.2.2]))], [cArr G dh1 249 dL.1], [cArr G dh3 249 dL.2.2.1], [cArr G dh5 40 dL.2.2.2.2.2.2.2.2.2.2.1], [cArr G dh6 60 dL.2.2.2.2.2.2.2.2.2.2.2.2.1], [cArr G dh7 93 dL.2.2.2.2.2.2.2.2.2.2.2.2.2.1]]) H := hP
            have hD : va_D A (fl [[cArr G dh2 249 dL.2.1], [cArr G dh4 1992 u_9], [(dh0, .inr (12, [.ref dh1, .ref dh2, .ref dh3, .ref dh4, .int (dL.2.2.2.2.1 - (1 : Int32)), .int dL.2.2.2.2.2.1, .int dL.2.2.2.2.2.2.1, .int dL.2.2.2.2.2.2.2.1, .int dL.2.2.2.2.2.2.2.2.1, .int dL.2.2.2.2.2.2.2.2.2.1, .ref dh5, .int dL.2.2.2.2.2.2.2.2.2.2.2.1, .ref dh6, .ref dh7, .int dL.2.2.2.2.2.2.2.2.2.2.2.2.2.2.1, .int dL.2.2.2.2.2.2.2.2.2.2.2.2.2.2.2.1, .int dL.2.2.2.2.2.2.2.2.2.2.2.2.2.2.2.2]))], [cArr G dh1 249 dL.1], [cArr G dh3 249 dL.2.2.1], [cArr G dh5 40 dL.2.2.2.2.2.2.2.2.2.2.1], [cArr G dh6 60 dL.2.2.2.2.2.2.2.2.2.2.2.2.1], [cArr G dh7 93 dL.2.2.2.2.2.2.2.2.2.2.2.2.2.1]]) := hD
            refine W.eq (g2 := F0 m 85 ls []) rfl ?_
            have hF : f_X10_ends d told = (told, (mo4 (mo3 dL u_9) ((dL.2.2.2.2.1 - (1 : Int32)) + (1 : Int32)))) := by subst eu_9; exact hF
            refine lv_aload_n hx hb dX10_ends_85 rfl (lv_at hl 1 rfl) ?_
            refine lv_dup hx hb dX10_ends_86 rfl ?_
            refine va_get (D := G.1) (ci := 12) (v := .int (dL.2.2.2.2.1 - (1 : Int32))) (C := RX10) (T := TX10) (N := 17) hx hb hts uws_X10 hown hK hP 2 rfl rfl 4 (by decide) (hts _ u_1684) (fun _ h9 => h9) rfl dX10_ends_87 ?_
            refine lv_iconst (v := (1 : Int32)) hx hb dX10_ends_90 (by decide) ?_
            refine lv_iadd hx hb dX10_ends_91 ?_
            refine va_put (D := G.1) (ci := 12) (v := .int ((dL.2.2.2.2.1 - (1 : Int32)) + (1 : Int32))) (ty := .int) (C := RX10) (T := TX10) (N := 17) hx hb hts uws_X10 tyX10 tyX10_ok nmX10 hown hK hP hD hS 2 rfl rfl 4 (by decide) (hts _ u_1684) (fun _ h9 => h9) rfl (by decide +kernel) rfl rfl (Nat.le_of_ble_eq_true rfl) dX10_ends_92 (fun H locs hP hD hS => ?_)
            have hP : va_P G.1 vwCl (fl [[cArr G dh2 249 dL.2.1], [cArr G dh4 1992 u_9], [(dh0, .inr (12, [.ref dh1, .ref dh2, .ref dh3, .ref dh4, .int ((dL.2.2.2.2.1 - (1 : Int32)) + (1 : Int32)), .int dL.2.2.2.2.2.1, .int dL.2.2.2.2.2.2.1, .int dL.2.2.2.2.2.2.2.1, .int dL.2.2.2.2.2.2.2.2.1, .int dL.2.2.2.2.2.2.2.2.2.1, .ref dh5, .int dL.2.2.2.2.2.2.2.2.2.2.2.1, .ref dh6, .ref dh7, .int dL.2.2.2.2.2.2.2.2.2.2.2.2.2.2.1, .int dL.2.2.2.2.2.2.2.2.2.2.2.2.2.2.2.1, .int dL.2.2.2.2.2.2.2.2.2.2.2.2.2.2.2.2]))], [cArr G dh1 249 dL.1], [cArr G dh3 249 dL.2.2.1], [cArr G dh5 40 dL.2.2.2.2.2.2.2.2.2.2.1], [cArr G dh6 60 dL.2.2.2.2.2.2.2.2.2.2.2.2.1], [cArr G dh7 93 dL.2.2.2.2.2.2.2.2.2.2.2.2.2.1]]) H := hP
            have hD : va_D A (fl [[cArr G dh2 249 dL.2.1], [cArr G dh4 1992 u_9], [(dh0, .inr (12, [.ref dh1, .ref dh2, .ref dh3, .ref dh4, .int ((dL.2.2.2.2.1 - (1 : Int32)) + (1 : Int32)), .int dL.2.2.2.2.2.1, .int dL.2.2.2.2.2.2.1, .int dL.2.2.2.2.2.2.2.1, .int dL.2.2.2.2.2.2.2.2.1, .int dL.2.2.2.2.2.2.2.2.2.1, .ref dh5, .int dL.2.2.2.2.2.2.2.2.2.2.2.1, .ref dh6, .ref dh7, .int dL.2.2.2.2.2.2.2.2.2.2.2.2.2.2.1, .int dL.2.2.2.2.2.2.2.2.2.2.2.2.2.2.2.1, .int dL.2.2.2.2.2.2.2.2.2.2.2.2.2.2.2.2]))], [cArr G dh1 249 dL.1], [cArr G dh3 249 dL.2.2.1], [cArr G dh5 40 dL.2.2.2.2.2.2.2.2.2.2.1], [cArr G dh6 60 dL.2.2.2.2.2.2.2.2.2.2.2.2.1], [cArr G dh7 93 dL.2.2.2.2.2.2.2.2.2.2.2.2.2.1]]) := hD
            refine lv_iload_n hx hb dX10_ends_95 rfl (lv_at hl 2 rfl) ?_
            have hP := fl_sub (cs := [[(dh0, .inr (12, [.ref dh1, .ref dh2, .ref dh3, .ref dh4, .int ((dL.2.2.2.2.1 - (1 : Int32)) + (1 : Int32)), .int dL.2.2.2.2.2.1, .int dL.2.2.2.2.2.2.1, .int dL.2.2.2.2.2.2.2.1, .int dL.2.2.2.2.2.2.2.2.1, .int dL.2.2.2.2.2.2.2.2.2.1, .ref dh5, .int dL.2.2.2.2.2.2.2.2.2.2.2.1, .ref dh6, .ref dh7, .int dL.2.2.2.2.2.2.2.2.2.2.2.2.2.2.1, .int dL.2.2.2.2.2.2.2.2.2.2.2.2.2.2.2.1, .int dL.2.2.2.2.2.2.2.2.2.2.2.2.2.2.2.2]))], [cArr G dh1 249 dL.1], [cArr G dh2 249 dL.2.1], [cArr G dh3 249 dL.2.2.1], [cArr G dh4 1992 u_9], [cArr G dh5 40 dL.2.2.2.2.2.2.2.2.2.2.1], [cArr G dh6 60 dL.2.2.2.2.2.2.2.2.2.2.2.2.1], [cArr G dh7 93 dL.2.2.2.2.2.2.2.2.2.2.2.2.2.1]]) [2, 3, 0, 4, 1, 5, 6, 7] rfl hP
            have hD := fl_subD (cs := [[(dh0, .inr (12, [.ref dh1, .ref dh2, .ref dh3, .ref dh4, .int ((dL.2.2.2.2.1 - (1 : Int32)) + (1 : Int32)), .int dL.2.2.2.2.2.1, .int dL.2.2.2.2.2.2.1, .int dL.2.2.2.2.2.2.2.1, .int dL.2.2.2.2.2.2.2.2.1, .int dL.2.2.2.2.2.2.2.2.2.1, .ref dh5, .int dL.2.2.2.2.2.2.2.2.2.2.2.1, .ref dh6, .ref dh7, .int dL.2.2.2.2.2.2.2.2.2.2.2.2.2.2.1, .int dL.2.2.2.2.2.2.2.2.2.2.2.2.2.2.2.1, .int dL.2.2.2.2.2.2.2.2.2.2.2.2.2.2.2.2]))], [cArr G dh1 249 dL.1], [cArr G dh2 249 dL.2.1], [cArr G dh3 249 dL.2.2.1], [cArr G dh4 1992 u_9], [cArr G dh5 40 dL.2.2.2.2.2.2.2.2.2.2.1], [cArr G dh6 60 dL.2.2.2.2.2.2.2.2.2.2.2.2.1], [cArr G dh7 93 dL.2.2.2.2.2.2.2.2.2.2.2.2.2.1]]) [2, 3, 0, 4, 1, 5, 6, 7] rfl rfl hD
            exact w_ret (u := (told, (mo4 (mo3 dL u_9) ((dL.2.2.2.2.1 - (1 : Int32)) + (1 : Int32))))) hx hb hr hlk rfl hS rfl hF.symm hP hD (Nat.le_of_ble_eq_true rfl) (Nat.le_of_ble_eq_true rfl) dX10_ends_96
          · have hF := hF.trans (if_neg c_6)
            have hok := Eq.mp (if_neg c_6) hok
            refine lv_aload_n hx hb dX10_ends_26 rfl (lv_at hl 1 rfl) ?_
            refine va_get (D := G.1) (ci := 12) (v := .ref dh4) (C := RX10) (T := TX10) (N := 17) hx hb hts uws_X10 hown hK hP 0 rfl rfl 3 (by decide) (hts _ u_1683) (fun _ h9 => h9) rfl dX10_ends_27 ?_
            refine lv_sipush (v := (249 : Int32)) hx hb dX10_ends_30 (by decide) ?_
            refine lv_iload_n hx hb dX10_ends_33 rfl (lv_at hl 0 rfl) ?_
            refine lv_imul hx hb dX10_ends_34 ?_
            refine lv_aload_n hx hb dX10_ends_35 rfl (lv_at hl 1 rfl) ?_
            refine va_get (D := G.1) (ci := 12) (v := .ref dh4) (C := RX10) (T := TX10) (N := 17) hx hb hts uws_X10 hown hK hP 0 rfl rfl 3 (by decide) (hts _ u_1683) (fun _ h9 => h9) rfl dX10_ends_36 ?_
            refine lv_sipush (v := (249 : Int32)) hx hb dX10_ends_39 (by decide) ?_
            refine lv_iload_n hx hb dX10_ends_42 rfl (lv_at hl 0 rfl) ?_
            refine lv_iconst (v := (1 : Int32)) hx hb dX10_ends_43 (by decide) ?_
            refine lv_isub hx hb dX10_ends_44 ?_
            refine lv_imul hx hb dX10_ends_45 ?_
            have k_10 := hok.1
            have hok := hok.2
            have hP : va_P G.1 vwCl (fl [[(dh0, .inr (12, [.ref dh1, .ref dh2, .ref dh3, .ref dh4, .int dL.2.2.2.2.1, .int dL.2.2.2.2.2.1, .int dL.2.2.2.2.2.2.1, .int dL.2.2.2.2.2.2.2.1, .int dL.2.2.2.2.2.2.2.2.1, .int dL.2.2.2.2.2.2.2.2.2.1, .ref dh5, .int dL.2.2.2.2.2.2.2.2.2.2.2.1, .ref dh6, .ref dh7, .int dL.2.2.2.2.2.2.2.2.2.2.2.2.2.2.1, .int dL.2.2.2.2.2.2.2.2.2.2.2.2.2.2.2.1, .int dL.2.2.2.2.2.2.2.2.2.2.2.2.2.2.2.2]))], [cArr G dh1 249 dL.1], [cArr G dh2 249 dL.2.1], [cArr G dh3 249 dL.2.2.1], [cArr G dh4 1992 dL.2.2.2.1], [cArr G dh5 40 dL.2.2.2.2.2.2.2.2.2.2.1], [cArr G dh6 60 dL.2.2.2.2.2.2.2.2.2.2.2.2.1], [cArr G dh7 93 dL.2.2.2.2.2.2.2.2.2.2.2.2.2.1]]) H := hP
            have hD : va_D A (fl [[(dh0, .inr (12, [.ref dh1, .ref dh2, .ref dh3, .ref dh4, .int dL.2.2.2.2.1, .int dL.2.2.2.2.2.1, .int dL.2.2.2.2.2.2.1, .int dL.2.2.2.2.2.2.2.1, .int dL.2.2.2.2.2.2.2.2.1, .int dL.2.2.2.2.2.2.2.2.2.1, .ref dh5, .int dL.2.2.2.2.2.2.2.2.2.2.2.1, .ref dh6, .ref dh7, .int dL.2.2.2.2.2.2.2.2.2.2.2.2.2.2.1, .int dL.2.2.2.2.2.2.2.2.2.2.2.2.2.2.2.1, .int dL.2.2.2.2.2.2.2.2.2.2.2.2.2.2.2.2]))], [cArr G dh1 249 dL.1], [cArr G dh2 249 dL.2.1], [cArr G dh3 249 dL.2.2.1], [cArr G dh4 1992 dL.2.2.2.1], [cArr G dh5 40 dL.2.2.2.2.2.2.2.2.2.2.1], [cArr G dh6 60 dL.2.2.2.2.2.2.2.2.2.2.2.2.1], [cArr G dh7 93 dL.2.2.2.2.2.2.2.2.2.2.2.2.2.1]]) := hD
            refine w_S (own := RX10) (cs := [[cArr G dh4 1992 dL.2.2.2.1]]) (rs := [[(dh0, .inr (12, [.ref dh1, .ref dh2, .ref dh3, .ref dh4, .int dL.2.2.2.2.1, .int dL.2.2.2.2.2.1, .int dL.2.2.2.2.2.2.1, .int dL.2.2.2.2.2.2.2.1, .int dL.2.2.2.2.2.2.2.2.1, .int dL.2.2.2.2.2.2.2.2.2.1, .ref dh5, .int dL.2.2.2.2.2.2.2.2.2.2.2.1, .ref dh6, .ref dh7, .int dL.2.2.2.2.2.2.2.2.2.2.2.2.2.2.1, .int dL.2.2.2.2.2.2.2.2.2.2.2.2.2.2.2.1, .int dL.2.2.2.2.2.2.2.2.2.2.2.2.2.2.2.2]))], [cArr G dh1 249 dL.1], [cArr G dh2 249 dL.2.1], [cArr G dh3 249 dL.2.2.1], [cArr G dh5 40 dL.2.2.2.2.2.2.2.2.2.2.1], [cArr G dh6 60 dL.2.2.2.2.2.2.2.2.2.2.2.2.1], [cArr G dh7 93 dL.2.2.2.2.2.2.2.2.2.2.2.2.2.1]]) (As := [.ref dh4, .int ((249 : Int32) * x2), .ref dh4, .int ((249 : Int32) * (x2 - (1 : Int32)))]) (rest := []) (c_X10_copies2 l G dh4 H.size 1992 dL.2.2.2.1 ((249 : Int32) * x2) ((249 : Int32) * (x2 - (1 : Int32))) k_10) ⟨hx, hb, hml, hown, hts⟩ g_X10_41 hds_X10_copies hK hST hS hP hD hA [4] [0, 1, 2, 3, 5, 6, 7] rfl rfl rfl ⟨Nat.le_of_ble_eq_true rfl, Nat.le_of_ble_eq_true rfl⟩ ⟨Nat.le_of_ble_eq_true rfl, Nat.le_of_ble_eq_true rfl⟩ rfl hl.1 rfl (Nat.le_of_ble_eq_true rfl) dX10_ends_46 (fun u_12 H locs huu hP hD hS => ?_)
            have eu_12 := huu
            have hP : va_P G.1 vwCl (fl [[cArr G dh4 1992 u_12], [(dh0, .inr (12, [.ref dh1, .ref dh2, .ref dh3, .ref dh4, .int dL.2.2.2.2.1, .int dL.2.2.2.2.2.1, .int dL.2.2.2.2.2.2.1, .int dL.2.2.2.2.2.2.2.1, .int dL.2.2.2.2.2.2.2.2.1, .int dL.2.2.2.2.2.2.2.2.2.1, .ref dh5, .int dL.2.2.2.2.2.2.2.2.2.2.2.1, .ref dh6, .ref dh7, .int dL.2.2.2.2.2.2.2.2.2.2.2.2.2.2.1, .int dL.2.2.2.2.2.2.2.2.2.2.2.2.2.2.2.1, .int dL.2.2.2.2.2.2.2.2.2.2.2.2.2.2.2.2]))], [cArr G dh1 249 dL.1], [cArr G dh2 249 dL.2.1], [cArr G dh3 249 dL.2.2.1], [cArr G dh5 40 dL.2.2.2.2.2.2.2.2.2.2.1], [cArr G dh6 60 dL.2.2.2.2.2.2.2.2.2.2.2.2.1], [cArr G dh7 93 dL.2.2.2.2.2.2.2.2.2.2.2.2.2.1]]) H := hP
            have hD : va_D A (fl [[cArr G dh4 1992 u_12], [(dh0, .inr (12, [.ref dh1, .ref dh2, .ref dh3, .ref dh4, .int dL.2.2.2.2.1, .int dL.2.2.2.2.2.1, .int dL.2.2.2.2.2.2.1, .int dL.2.2.2.2.2.2.2.1, .int dL.2.2.2.2.2.2.2.2.1, .int dL.2.2.2.2.2.2.2.2.2.1, .ref dh5, .int dL.2.2.2.2.2.2.2.2.2.2.2.1, .ref dh6, .ref dh7, .int dL.2.2.2.2.2.2.2.2.2.2.2.2.2.2.1, .int dL.2.2.2.2.2.2.2.2.2.2.2.2.2.2.2.1, .int dL.2.2.2.2.2.2.2.2.2.2.2.2.2.2.2.2]))], [cArr G dh1 249 dL.1], [cArr G dh2 249 dL.2.1], [cArr G dh3 249 dL.2.2.1], [cArr G dh5 40 dL.2.2.2.2.2.2.2.2.2.2.1], [cArr G dh6 60 dL.2.2.2.2.2.2.2.2.2.2.2.2.1], [cArr G dh7 93 dL.2.2.2.2.2.2.2.2.2.2.2.2.2.1]]) := hD
            refine W.eq (g2 := F0 m 49 ls []) rfl ?_
            have hF : f_X10_ends d told = (lp_X10_ends_20 d told n (x2 + 1) (mo3 dL u_12)) := by subst eu_12; exact hF
            have hok : (okl_lp_X10_ends_20 d told n (x2 + 1) (mo3 dL u_12)) := by subst eu_12; exact hok
            refine lv_iinc (v := (x2 + 1)) (lv' := [(2, .int (x2 + 1)), (0, .ref dh0), (1, .int told)]) hx hb dX10_ends_49 hl (k := 0) rfl rfl (by decide) rfl (fun ls hl => ?_)
            refine lv_goto (tgt := 20) hx hb dX10_ends_52 (by decide) ?_
            have hP := fl_sub (cs := [[(dh0, .inr (12, [.ref dh1, .ref dh2, .ref dh3, .ref dh4, .int dL.2.2.2.2.1, .int dL.2.2.2.2.2.1, .int dL.2.2.2.2.2.2.1, .int dL.2.2.2.2.2.2.2.1, .int dL.2.2.2.2.2.2.2.2.1, .int dL.2.2.2.2.2.2.2.2.2.1, .ref dh5, .int dL.2.2.2.2.2.2.2.2.2.2.2.1, .ref dh6, .ref dh7, .int dL.2.2.2.2.2.2.2.2.2.2.2.2.2.2.1, .int dL.2.2.2.2.2.2.2.2.2.2.2.2.2.2.2.1, .int dL.2.2.2.2.2.2.2.2.2.2.2.2.2.2.2.2]))], [cArr G dh1 249 dL.1], [cArr G dh2 249 dL.2.1], [cArr G dh3 249 dL.2.2.1], [cArr G dh4 1992 u_12], [cArr G dh5 40 dL.2.2.2.2.2.2.2.2.2.2.1], [cArr G dh6 60 dL.2.2.2.2.2.2.2.2.2.2.2.2.1], [cArr G dh7 93 dL.2.2.2.2.2.2.2.2.2.2.2.2.2.1]]) [1, 2, 3, 4, 0, 5, 6, 7] rfl hP
            have hD := fl_subD (cs := [[(dh0, .inr (12, [.ref dh1, .ref dh2, .ref dh3, .ref dh4, .int dL.2.2.2.2.1, .int dL.2.2.2.2.2.1, .int dL.2.2.2.2.2.2.1, .int dL.2.2.2.2.2.2.2.1, .int dL.2.2.2.2.2.2.2.2.1, .int dL.2.2.2.2.2.2.2.2.2.1, .ref dh5, .int dL.2.2.2.2.2.2.2.2.2.2.2.1, .ref dh6, .ref dh7, .int dL.2.2.2.2.2.2.2.2.2.2.2.2.2.2.1, .int dL.2.2.2.2.2.2.2.2.2.2.2.2.2.2.2.1, .int dL.2.2.2.2.2.2.2.2.2.2.2.2.2.2.2.2]))], [cArr G dh1 249 dL.1], [cArr G dh2 249 dL.2.1], [cArr G dh3 249 dL.2.2.1], [cArr G dh4 1992 u_12], [cArr G dh5 40 dL.2.2.2.2.2.2.2.2.2.2.1], [cArr G dh6 60 dL.2.2.2.2.2.2.2.2.2.2.2.2.1], [cArr G dh7 93 dL.2.2.2.2.2.2.2.2.2.2.2.2.2.1]]) [1, 2, 3, 4, 0, 5, 6, 7] rfl rfl hD
            exact ih (x2 + 1) (mo3 dL u_12) _ _ ls (lv_sub hl [0, 1, 2] rfl) hP hD hS (upI_s (Int32.not_le.mp c_6) hu) hF hok
      exact L20 ((((8 : Int32)).toInt - ((1 : Int32)).toInt).toNat + 1) (1 : Int32) d _ _ ls (lv_sub hl [0, 1, 2] rfl) hP hD hS (upI_i) hF hok
  · have hF := hF.trans (if_neg c_1)
    have hok := Eq.mp (if_neg c_1) hok
    refine lv_iconst (v := (0 : Int32)) hx hb dX10_ends_7 (by decide) ?_
    exact w_ret (u := ((0 : Int32), d)) hx hb hr hlk rfl hS rfl hF.symm hP hD (Nat.le_of_ble_eq_true rfl) (Nat.le_of_ble_eq_true rfl) dX10_ends_8
theorem dX10_of_0 : decode cX10_of 0 = .ok (.aload_n 0, 1) := by decide +kernel
theorem dX10_of_1 : decode cX10_of 1 = .ok (.getfield 9, 3) := by decide +kernel
theorem dX10_of_4 : decode cX10_of 4 = .ok (.bipush 11, 2) := by decide +kernel
theorem dX10_of_6 : decode cX10_of 6 = .ok (.iconst 4, 1) := by decide +kernel
theorem dX10_of_7 : decode cX10_of 7 = .ok (.iload_n 1, 1) := by decide +kernel
theorem dX10_of_8 : decode cX10_of 8 = .ok (.imul, 1) := by decide +kernel
theorem dX10_of_9 : decode cX10_of 9 = .ok (.iadd, 1) := by decide +kernel
theorem dX10_of_10 : decode cX10_of 10 = .ok (.iload_n 2, 1) := by decide +kernel
theorem dX10_of_11 : decode cX10_of 11 = .ok (.iadd, 1) := by decide +kernel
theorem dX10_of_12 : decode cX10_of 12 = .ok (.iaload, 1) := by decide +kernel
theorem dX10_of_13 : decode cX10_of 13 = .ok (.ireturn, 1) := by decide +kernel
def f_X10_of (d : MoV) (dr : Int32) (wh : Int32) : Int32 := (d.1 (((11 : Int32) + ((4 : Int32) * dr)) + wh).toNatClampNeg)
def ok_X10_of (d : MoV) (dr : Int32) (wh : Int32) : Prop := (vp_in (((11 : Int32) + ((4 : Int32) * dr)) + wh) 249 ∧ True)
set_option maxHeartbeats 4000000 in
set_option maxRecDepth 100000 in
theorem c_X10_of (l : Launch) (G : GG) (dh0 : Nat) (dh1 : Nat) (dh2 : Nat) (dh3 : Nat) (dh4 : Nat) (dh5 : Nat) (dh6 : Nat) (dh7 : Nat) (d : MoV) (dr : Int32) (wh : Int32) (hok : ok_X10_of d dr wh) : rMet l yX10_of cX10_of 3 (some .int) 1 G (fl [wMo G dh0 dh1 dh2 dh3 dh4 dh5 dh6 dh7 d]) [.ref dh0, .int dr, .int wh] (some (.int (f_X10_of d dr wh))) (True) := by
  refine r_start (by decide +kernel) (Nat.le_of_ble_eq_true rfl) ?_
  intro p e s m below meth c hx hb hr hml hts hown hlk hP hK hST ls hl
  have hS : va_S (fun _ => False) s.heap s.heap [] := va_S.rf
  have hown : s.vm.findClass RX10 = some m.cls := hown
  have hl : lv_has ls 3 [(0, .ref dh0), (1, .int dr), (2, .int wh)] := hl
  have hF : f_X10_of d dr wh = (d.1 (((11 : Int32) + ((4 : Int32) * dr)) + wh).toNatClampNeg) := rfl
  have hok : (vp_in (((11 : Int32) + ((4 : Int32) * dr)) + wh) 249 ∧ True) := hok
  refine lv_aload_n hx hb dX10_of_0 rfl (lv_at hl 0 rfl) ?_
  refine va_get (D := G.1) (ci := 12) (v := .ref dh1) (C := RX10) (T := TX10) (N := 17) hx hb hts uws_X10 hown hK hP 0 rfl rfl 0 (by decide) (hts _ u_1680) (fun _ h9 => h9) rfl dX10_of_1 ?_
  refine lv_bipush (v := (11 : Int32)) hx hb dX10_of_4 (by decide) ?_
  refine lv_iconst (v := (4 : Int32)) hx hb dX10_of_6 (by decide) ?_
  refine lv_iload_n hx hb dX10_of_7 rfl (lv_at hl 1 rfl) ?_
  refine lv_imul hx hb dX10_of_8 ?_
  refine lv_iadd hx hb dX10_of_9 ?_
  refine lv_iload_n hx hb dX10_of_10 rfl (lv_at hl 2 rfl) ?_
  refine lv_iadd hx hb dX10_of_11 ?_
  have h_1 := hok.1
  have hok := hok.2
  refine va_iald hx hb hK hP 1 0 rfl rfl h_1 dX10_of_12 ?_
  exact r_ret hx hb hr hlk rfl (by rw [hF]) trivial dX10_of_13
theorem dX10_ofPerson_0 : decode cX10_ofPerson 0 = .ok (.aload_n 0, 1) := by decide +kernel
theorem dX10_ofPerson_1 : decode cX10_ofPerson 1 = .ok (.getfield 9, 3) := by decide +kernel
theorem dX10_ofPerson_4 : decode cX10_ofPerson 4 = .ok (.bipush 43, 2) := by decide +kernel
theorem dX10_ofPerson_6 : decode cX10_ofPerson 6 = .ok (.iconst 2, 1) := by decide +kernel
theorem dX10_ofPerson_7 : decode cX10_ofPerson 7 = .ok (.iload_n 1, 1) := by decide +kernel
theorem dX10_ofPerson_8 : decode cX10_ofPerson 8 = .ok (.imul, 1) := by decide +kernel
theorem dX10_ofPerson_9 : decode cX10_ofPerson 9 = .ok (.iadd, 1) := by decide +kernel
theorem dX10_ofPerson_10 : decode cX10_ofPerson 10 = .ok (.iload_n 2, 1) := by decide +kernel
theorem dX10_ofPerson_11 : decode cX10_ofPerson 11 = .ok (.iadd, 1) := by decide +kernel
theorem dX10_ofPerson_12 : decode cX10_ofPerson 12 = .ok (.iaload, 1) := by decide +kernel
theorem dX10_ofPerson_13 : decode cX10_ofPerson 13 = .ok (.ireturn, 1) := by decide +kernel
def f_X10_ofPerson (d : MoV) (ps : Int32) (wh : Int32) : Int32 := (d.1 (((43 : Int32) + ((2 : Int32) * ps)) + wh).toNatClampNeg)
def ok_X10_ofPerson (d : MoV) (ps : Int32) (wh : Int32) : Prop := (vp_in (((43 : Int32) + ((2 : Int32) * ps)) + wh) 249 ∧ True)
set_option maxHeartbeats 4000000 in
set_option maxRecDepth 100000 in
theorem c_X10_ofPerson (l : Launch) (G : GG) (dh0 : Nat) (dh1 : Nat) (dh2 : Nat) (dh3 : Nat) (dh4 : Nat) (dh5 : Nat) (dh6 : Nat) (dh7 : Nat) (d : MoV) (ps : Int32) (wh : Int32) (hok : ok_X10_ofPerson d ps wh) : rMet l yX10_ofPerson cX10_ofPerson 3 (some .int) 1 G (fl [wMo G dh0 dh1 dh2 dh3 dh4 dh5 dh6 dh7 d]) [.ref dh0, .int ps, .int wh] (some (.int (f_X10_ofPerson d ps wh))) (True) := by
  refine r_start (by decide +kernel) (Nat.le_of_ble_eq_true rfl) ?_
  intro p e s m below meth c hx hb hr hml hts hown hlk hP hK hST ls hl
  have hS : va_S (fun _ => False) s.heap s.heap [] := va_S.rf
  have hown : s.vm.findClass RX10 = some m.cls := hown
  have hl : lv_has ls 3 [(0, .ref dh0), (1, .int ps), (2, .int wh)] := hl
  have hF : f_X10_ofPerson d ps wh = (d.1 (((43 : Int32) + ((2 : Int32) * ps)) + wh).toNatClampNeg) := rfl
  have hok : (vp_in (((43 : Int32) + ((2 : Int32) * ps)) + wh) 249 ∧ True) := hok
  refine lv_aload_n hx hb dX10_ofPerson_0 rfl (lv_at hl 0 rfl) ?_
  refine va_get (D := G.1) (ci := 12) (v := .ref dh1) (C := RX10) (T := TX10) (N := 17) hx hb hts uws_X10 hown hK hP 0 rfl rfl 0 (by decide) (hts _ u_1680) (fun _ h9 => h9) rfl dX10_ofPerson_1 ?_
  refine lv_bipush (v := (43 : Int32)) hx hb dX10_ofPerson_4 (by decide) ?_
  refine lv_iconst (v := (2 : Int32)) hx hb dX10_ofPerson_6 (by decide) ?_
  refine lv_iload_n hx hb dX10_ofPerson_7 rfl (lv_at hl 1 rfl) ?_
  refine lv_imul hx hb dX10_ofPerson_8 ?_
  refine lv_iadd hx hb dX10_ofPerson_9 ?_
  refine lv_iload_n hx hb dX10_ofPerson_10 rfl (lv_at hl 2 rfl) ?_
  refine lv_iadd hx hb dX10_ofPerson_11 ?_
  have h_1 := hok.1
  have hok := hok.2
  refine va_iald hx hb hK hP 1 0 rfl rfl h_1 dX10_ofPerson_12 ?_
  exact r_ret hx hb hr hlk rfl (by rw [hF]) trivial dX10_ofPerson_13
theorem dX10_ofException_0 : decode cX10_ofException 0 = .ok (.aload_n 0, 1) := by decide +kernel
theorem dX10_ofException_1 : decode cX10_ofException 1 = .ok (.getfield 9, 3) := by decide +kernel
theorem dX10_ofException_4 : decode cX10_ofException 4 = .ok (.bipush 55, 2) := by decide +kernel
theorem dX10_ofException_6 : decode cX10_ofException 6 = .ok (.iconst 3, 1) := by decide +kernel
theorem dX10_ofException_7 : decode cX10_ofException 7 = .ok (.iload_n 1, 1) := by decide +kernel
theorem dX10_ofException_8 : decode cX10_ofException 8 = .ok (.imul, 1) := by decide +kernel
theorem dX10_ofException_9 : decode cX10_ofException 9 = .ok (.iadd, 1) := by decide +kernel
theorem dX10_ofException_10 : decode cX10_ofException 10 = .ok (.iload_n 2, 1) := by decide +kernel
theorem dX10_ofException_11 : decode cX10_ofException 11 = .ok (.iadd, 1) := by decide +kernel
theorem dX10_ofException_12 : decode cX10_ofException 12 = .ok (.iaload, 1) := by decide +kernel
theorem dX10_ofException_13 : decode cX10_ofException 13 = .ok (.ireturn, 1) := by decide +kernel
def f_X10_ofException (d : MoV) (i : Int32) (wh : Int32) : Int32 := (d.1 (((55 : Int32) + ((3 : Int32) * i)) + wh).toNatClampNeg)
def ok_X10_ofException (d : MoV) (i : Int32) (wh : Int32) : Prop := (vp_in (((55 : Int32) + ((3 : Int32) * i)) + wh) 249 ∧ True)
set_option maxHeartbeats 4000000 in
set_option maxRecDepth 100000 in
theorem c_X10_ofException (l : Launch) (G : GG) (dh0 : Nat) (dh1 : Nat) (dh2 : Nat) (dh3 : Nat) (dh4 : Nat) (dh5 : Nat) (dh6 : Nat) (dh7 : Nat) (d : MoV) (i : Int32) (wh : Int32) (hok : ok_X10_ofException d i wh) : rMet l yX10_ofException cX10_ofException 3 (some .int) 1 G (fl [wMo G dh0 dh1 dh2 dh3 dh4 dh5 dh6 dh7 d]) [.ref dh0, .int i, .int wh] (some (.int (f_X10_ofException d i wh))) (True) := by
  refine r_start (by decide +kernel) (Nat.le_of_ble_eq_true rfl) ?_
  intro p e s m below meth c hx hb hr hml hts hown hlk hP hK hST ls hl
  have hS : va_S (fun _ => False) s.heap s.heap [] := va_S.rf
  have hown : s.vm.findClass RX10 = some m.cls := hown
  have hl : lv_has ls 3 [(0, .ref dh0), (1, .int i), (2, .int wh)] := hl
  have hF : f_X10_ofException d i wh = (d.1 (((55 : Int32) + ((3 : Int32) * i)) + wh).toNatClampNeg) := rfl
  have hok : (vp_in (((55 : Int32) + ((3 : Int32) * i)) + wh) 249 ∧ True) := hok
  refine lv_aload_n hx hb dX10_ofException_0 rfl (lv_at hl 0 rfl) ?_
  refine va_get (D := G.1) (ci := 12) (v := .ref dh1) (C := RX10) (T := TX10) (N := 17) hx hb hts uws_X10 hown hK hP 0 rfl rfl 0 (by decide) (hts _ u_1680) (fun _ h9 => h9) rfl dX10_ofException_1 ?_
  refine lv_bipush (v := (55 : Int32)) hx hb dX10_ofException_4 (by decide) ?_
  refine lv_iconst (v := (3 : Int32)) hx hb dX10_ofException_6 (by decide) ?_
  refine lv_iload_n hx hb dX10_ofException_7 rfl (lv_at hl 1 rfl) ?_
  refine lv_imul hx hb dX10_ofException_8 ?_
  refine lv_iadd hx hb dX10_ofException_9 ?_
  refine lv_iload_n hx hb dX10_ofException_10 rfl (lv_at hl 2 rfl) ?_
  refine lv_iadd hx hb dX10_ofException_11 ?_
  have h_1 := hok.1
  have hok := hok.2
  refine va_iald hx hb hK hP 1 0 rfl rfl h_1 dX10_ofException_12 ?_
  exact r_ret hx hb hr hlk rfl (by rw [hF]) trivial dX10_ofException_13
theorem dX10_isDoor_0 : decode cX10_isDoor 0 = .ok (.iload_n 1, 1) := by decide +kernel
theorem dX10_isDoor_1 : decode cX10_isDoor 1 = .ok (.iconst 0, 1) := by decide +kernel
theorem dX10_isDoor_2 : decode cX10_isDoor 2 = .ok (.aload_n 0, 1) := by decide +kernel
theorem dX10_isDoor_3 : decode cX10_isDoor 3 = .ok (.getfield 9, 3) := by decide +kernel
theorem dX10_isDoor_6 : decode cX10_isDoor 6 = .ok (.iconst 2, 1) := by decide +kernel
theorem dX10_isDoor_7 : decode cX10_isDoor 7 = .ok (.iaload, 1) := by decide +kernel
theorem dX10_isDoor_8 : decode cX10_isDoor 8 = .ok (.iconst 1, 1) := by decide +kernel
theorem dX10_isDoor_9 : decode cX10_isDoor 9 = .ok (.isub, 1) := by decide +kernel
theorem dX10_isDoor_10 : decode cX10_isDoor 10 = .ok (.invokestatic 48, 3) := by decide +kernel
theorem u_1750 : Cond.methodLink RX10 48 yX10_isIn ∈ UW := uw 1750 (by decide +kernel) rfl
theorem u_1751 : Cond.static yX10_isIn ∈ UW := uw 1751 (by decide +kernel) rfl
theorem u_1752 : Cond.code yX10_isIn cX10_isIn 3 (some .boolean) ∈ UW := uw 1752 (by decide +kernel) rfl
theorem g_X10_48 : GoodIn UW (va_wsS RX10 48 yX10_isIn (wsU yX10_isIn cX10_isIn 3 (some .boolean))) := gS u_1750 u_1751 u_77 u_1752
theorem hds_X10_isIn : yX10_isIn.cls ≠ "java/lang/invoke/MethodHandle" ∧ yX10_isIn.cls ≠ "java/lang/invoke/VarHandle" ∧ (parseMethodDescriptor yX10_isIn.desc).map (fun d => d.parameters.length) = some 3 := by decide +kernel
theorem dX10_isDoor_13 : decode cX10_isDoor 13 = .ok (.ireturn, 1) := by decide +kernel
def f_X10_isDoor (d : MoV) (dr : Int32) : Int32 := (f_X10_isIn dr (0 : Int32) ((d.1 (2 : Int32).toNatClampNeg) - (1 : Int32)))
set_option maxHeartbeats 4000000 in
set_option maxRecDepth 100000 in
theorem c_X10_isDoor (l : Launch) (G : GG) (dh0 : Nat) (dh1 : Nat) (dh2 : Nat) (dh3 : Nat) (dh4 : Nat) (dh5 : Nat) (dh6 : Nat) (dh7 : Nat) (d : MoV) (dr : Int32) : rMet l yX10_isDoor cX10_isDoor 2 (some .boolean) 2 G (fl [wMo G dh0 dh1 dh2 dh3 dh4 dh5 dh6 dh7 d]) [.ref dh0, .int dr] (some (.int (f_X10_isDoor d dr))) (narrow .boolean (.int (f_X10_isDoor d dr)) = .int (f_X10_isDoor d dr)) := by
  refine r_start (by decide +kernel) (Nat.le_of_ble_eq_true rfl) ?_
  intro p e s m below meth c hx hb hr hml hts hown hlk hP hK hST ls hl
  have hS : va_S (fun _ => False) s.heap s.heap [] := va_S.rf
  have hown : s.vm.findClass RX10 = some m.cls := hown
  have hl : lv_has ls 2 [(0, .ref dh0), (1, .int dr)] := hl
  have hF : f_X10_isDoor d dr = (f_X10_isIn dr (0 : Int32) ((d.1 (2 : Int32).toNatClampNeg) - (1 : Int32))) := rfl
  refine lv_iload_n hx hb dX10_isDoor_0 rfl (lv_at hl 1 rfl) ?_
  refine lv_iconst (v := (0 : Int32)) hx hb dX10_isDoor_1 (by decide) ?_
  refine lv_aload_n hx hb dX10_isDoor_2 rfl (lv_at hl 0 rfl) ?_
  refine va_get (D := G.1) (ci := 12) (v := .ref dh1) (C := RX10) (T := TX10) (N := 17) hx hb hts uws_X10 hown hK hP 0 rfl rfl 0 (by decide) (hts _ u_1680) (fun _ h9 => h9) rfl dX10_isDoor_3 ?_
  refine lv_iconst (v := (2 : Int32)) hx hb dX10_isDoor_6 (by decide) ?_
  refine va_iald hx hb hK hP 1 0 rfl rfl (vp_in_nI (n := 2) (by decide) (by decide)) dX10_isDoor_7 ?_
  refine lv_iconst (v := (1 : Int32)) hx hb dX10_isDoor_8 (by decide) ?_
  refine lv_isub hx hb dX10_isDoor_9 ?_
  refine r_S (own := RX10) (v := (some (.int (f_X10_isIn dr (0 : Int32) ((d.1 (2 : Int32).toNatClampNeg) - (1 : Int32)))))) (st1 := [.int (f_X10_isIn dr (0 : Int32) ((d.1 (2 : Int32).toNatClampNeg) - (1 : Int32)))]) (As := [.int dr, .int (0 : Int32), .int ((d.1 (2 : Int32).toNatClampNeg) - (1 : Int32))]) (rest := []) (c_X10_isIn l G dr (0 : Int32) ((d.1 (2 : Int32).toNatClampNeg) - (1 : Int32))) ⟨hx, hb, hml, hown, hts⟩ g_X10_48 hds_X10_isIn hK hST hS hP [] rfl ⟨Nat.le_of_ble_eq_true rfl, Nat.le_of_ble_eq_true rfl⟩ ⟨Nat.le_of_ble_eq_true rfl, Nat.le_of_ble_eq_true rfl⟩ rfl hl.1 rfl (Nat.le_of_ble_eq_true rfl) dX10_isDoor_10 rfl (fun b_1 => ?_)
  exact r_ret hx hb hr hlk b_1 (by rw [hF]) (by rw [hF]; exact (b_1 : narrow .boolean (.int (f_X10_isIn dr (0 : Int32) ((d.1 (2 : Int32).toNatClampNeg) - (1 : Int32)))) = .int (f_X10_isIn dr (0 : Int32) ((d.1 (2 : Int32).toNatClampNeg) - (1 : Int32))))) dX10_isDoor_13
theorem dX10_isPerson_0 : decode cX10_isPerson 0 = .ok (.iload_n 1, 1) := by decide +kernel
theorem dX10_isPerson_1 : decode cX10_isPerson 1 = .ok (.iconst 0, 1) := by decide +kernel
theorem dX10_isPerson_2 : decode cX10_isPerson 2 = .ok (.aload_n 0, 1) := by decide +kernel
theorem dX10_isPerson_3 : decode cX10_isPerson 3 = .ok (.getfield 9, 3) := by decide +kernel
theorem dX10_isPerson_6 : decode cX10_isPerson 6 = .ok (.iconst 3, 1) := by decide +kernel
theorem dX10_isPerson_7 : decode cX10_isPerson 7 = .ok (.iaload, 1) := by decide +kernel
theorem dX10_isPerson_8 : decode cX10_isPerson 8 = .ok (.iconst 1, 1) := by decide +kernel
theorem dX10_isPerson_9 : decode cX10_isPerson 9 = .ok (.isub, 1) := by decide +kernel
theorem dX10_isPerson_10 : decode cX10_isPerson 10 = .ok (.invokestatic 48, 3) := by decide +kernel
theorem dX10_isPerson_13 : decode cX10_isPerson 13 = .ok (.ireturn, 1) := by decide +kernel
def f_X10_isPerson (d : MoV) (ps : Int32) : Int32 := (f_X10_isIn ps (0 : Int32) ((d.1 (3 : Int32).toNatClampNeg) - (1 : Int32)))
set_option maxHeartbeats 4000000 in
set_option maxRecDepth 100000 in
theorem c_X10_isPerson (l : Launch) (G : GG) (dh0 : Nat) (dh1 : Nat) (dh2 : Nat) (dh3 : Nat) (dh4 : Nat) (dh5 : Nat) (dh6 : Nat) (dh7 : Nat) (d : MoV) (ps : Int32) : rMet l yX10_isPerson cX10_isPerson 2 (some .boolean) 2 G (fl [wMo G dh0 dh1 dh2 dh3 dh4 dh5 dh6 dh7 d]) [.ref dh0, .int ps] (some (.int (f_X10_isPerson d ps))) (narrow .boolean (.int (f_X10_isPerson d ps)) = .int (f_X10_isPerson d ps)) := by
  refine r_start (by decide +kernel) (Nat.le_of_ble_eq_true rfl) ?_
  intro p e s m below meth c hx hb hr hml hts hown hlk hP hK hST ls hl
  have hS : va_S (fun _ => False) s.heap s.heap [] := va_S.rf
  have hown : s.vm.findClass RX10 = some m.cls := hown
  have hl : lv_has ls 2 [(0, .ref dh0), (1, .int ps)] := hl
  have hF : f_X10_isPerson d ps = (f_X10_isIn ps (0 : Int32) ((d.1 (3 : Int32).toNatClampNeg) - (1 : Int32))) := rfl
  refine lv_iload_n hx hb dX10_isPerson_0 rfl (lv_at hl 1 rfl) ?_
  refine lv_iconst (v := (0 : Int32)) hx hb dX10_isPerson_1 (by decide) ?_
  refine lv_aload_n hx hb dX10_isPerson_2 rfl (lv_at hl 0 rfl) ?_
  refine va_get (D := G.1) (ci := 12) (v := .ref dh1) (C := RX10) (T := TX10) (N := 17) hx hb hts uws_X10 hown hK hP 0 rfl rfl 0 (by decide) (hts _ u_1680) (fun _ h9 => h9) rfl dX10_isPerson_3 ?_
  refine lv_iconst (v := (3 : Int32)) hx hb dX10_isPerson_6 (by decide) ?_
  refine va_iald hx hb hK hP 1 0 rfl rfl (vp_in_nI (n := 3) (by decide) (by decide)) dX10_isPerson_7 ?_
  refine lv_iconst (v := (1 : Int32)) hx hb dX10_isPerson_8 (by decide) ?_
  refine lv_isub hx hb dX10_isPerson_9 ?_
  refine r_S (own := RX10) (v := (some (.int (f_X10_isIn ps (0 : Int32) ((d.1 (3 : Int32).toNatClampNeg) - (1 : Int32)))))) (st1 := [.int (f_X10_isIn ps (0 : Int32) ((d.1 (3 : Int32).toNatClampNeg) - (1 : Int32)))]) (As := [.int ps, .int (0 : Int32), .int ((d.1 (3 : Int32).toNatClampNeg) - (1 : Int32))]) (rest := []) (c_X10_isIn l G ps (0 : Int32) ((d.1 (3 : Int32).toNatClampNeg) - (1 : Int32))) ⟨hx, hb, hml, hown, hts⟩ g_X10_48 hds_X10_isIn hK hST hS hP [] rfl ⟨Nat.le_of_ble_eq_true rfl, Nat.le_of_ble_eq_true rfl⟩ ⟨Nat.le_of_ble_eq_true rfl, Nat.le_of_ble_eq_true rfl⟩ rfl hl.1 rfl (Nat.le_of_ble_eq_true rfl) dX10_isPerson_10 rfl (fun b_1 => ?_)
  exact r_ret hx hb hr hlk b_1 (by rw [hF]) (by rw [hF]; exact (b_1 : narrow .boolean (.int (f_X10_isIn ps (0 : Int32) ((d.1 (3 : Int32).toNatClampNeg) - (1 : Int32)))) = .int (f_X10_isIn ps (0 : Int32) ((d.1 (3 : Int32).toNatClampNeg) - (1 : Int32))))) dX10_isPerson_13
theorem dX10_isKey_0 : decode cX10_isKey 0 = .ok (.iload_n 0, 1) := by decide +kernel
theorem dX10_isKey_1 : decode cX10_isKey 1 = .ok (.iconst 0, 1) := by decide +kernel
theorem dX10_isKey_2 : decode cX10_isKey 2 = .ok (.bipush 7, 2) := by decide +kernel
theorem dX10_isKey_4 : decode cX10_isKey 4 = .ok (.invokestatic 48, 3) := by decide +kernel
theorem dX10_isKey_7 : decode cX10_isKey 7 = .ok (.ireturn, 1) := by decide +kernel
def f_X10_isKey (k : Int32) : Int32 := (f_X10_isIn k (0 : Int32) (7 : Int32))
set_option maxHeartbeats 4000000 in
set_option maxRecDepth 100000 in
theorem c_X10_isKey (l : Launch) (G : GG)  (k : Int32) : rMet l yX10_isKey cX10_isKey 1 (some .boolean) 2 G (fl []) [.int k] (some (.int (f_X10_isKey k))) (narrow .boolean (.int (f_X10_isKey k)) = .int (f_X10_isKey k)) := by
  refine r_start (by decide +kernel) (Nat.le_of_ble_eq_true rfl) ?_
  intro p e s m below meth c hx hb hr hml hts hown hlk hP hK hST ls hl
  have hS : va_S (fun _ => False) s.heap s.heap [] := va_S.rf
  have hown : s.vm.findClass RX10 = some m.cls := hown
  have hl : lv_has ls 1 [(0, .int k)] := hl
  have hF : f_X10_isKey k = (f_X10_isIn k (0 : Int32) (7 : Int32)) := rfl
  refine lv_iload_n hx hb dX10_isKey_0 rfl (lv_at hl 0 rfl) ?_
  refine lv_iconst (v := (0 : Int32)) hx hb dX10_isKey_1 (by decide) ?_
  refine lv_bipush (v := (7 : Int32)) hx hb dX10_isKey_2 (by decide) ?_
  refine r_S (own := RX10) (v := (some (.int (f_X10_isIn k (0 : Int32) (7 : Int32))))) (st1 := [.int (f_X10_isIn k (0 : Int32) (7 : Int32))]) (As := [.int k, .int (0 : Int32), .int (7 : Int32)]) (rest := []) (c_X10_isIn l G k (0 : Int32) (7 : Int32)) ⟨hx, hb, hml, hown, hts⟩ g_X10_48 hds_X10_isIn hK hST hS hP [] rfl ⟨Nat.le_of_ble_eq_true rfl, Nat.le_of_ble_eq_true rfl⟩ ⟨Nat.le_of_ble_eq_true rfl, Nat.le_of_ble_eq_true rfl⟩ rfl hl.1 rfl (Nat.le_of_ble_eq_true rfl) dX10_isKey_4 rfl (fun b_1 => ?_)
  exact r_ret hx hb hr hlk b_1 (by rw [hF]) (by rw [hF]; exact (b_1 : narrow .boolean (.int (f_X10_isIn k (0 : Int32) (7 : Int32))) = .int (f_X10_isIn k (0 : Int32) (7 : Int32)))) dX10_isKey_7
theorem dX10_today_0 : decode cX10_today 0 = .ok (.aload_n 0, 1) := by decide +kernel
theorem dX10_today_1 : decode cX10_today 1 = .ok (.getfield 9, 3) := by decide +kernel
theorem dX10_today_4 : decode cX10_today 4 = .ok (.iconst 0, 1) := by decide +kernel
theorem dX10_today_5 : decode cX10_today 5 = .ok (.iaload, 1) := by decide +kernel
theorem dX10_today_6 : decode cX10_today 6 = .ok (.bipush 24, 2) := by decide +kernel
theorem dX10_today_8 : decode cX10_today 8 = .ok (.idiv, 1) := by decide +kernel
theorem dX10_today_9 : decode cX10_today 9 = .ok (.ireturn, 1) := by decide +kernel
def f_X10_today (d : MoV) : Int32 := ((d.1 (0 : Int32).toNatClampNeg) / (24 : Int32))
set_option maxHeartbeats 4000000 in
set_option maxRecDepth 100000 in
theorem c_X10_today (l : Launch) (G : GG) (dh0 : Nat) (dh1 : Nat) (dh2 : Nat) (dh3 : Nat) (dh4 : Nat) (dh5 : Nat) (dh6 : Nat) (dh7 : Nat) (d : MoV) : rMet l yX10_today cX10_today 1 (some .int) 1 G (fl [wMo G dh0 dh1 dh2 dh3 dh4 dh5 dh6 dh7 d]) [.ref dh0] (some (.int (f_X10_today d))) (True) := by
  refine r_start (by decide +kernel) (Nat.le_of_ble_eq_true rfl) ?_
  intro p e s m below meth c hx hb hr hml hts hown hlk hP hK hST ls hl
  have hS : va_S (fun _ => False) s.heap s.heap [] := va_S.rf
  have hown : s.vm.findClass RX10 = some m.cls := hown
  have hl : lv_has ls 1 [(0, .ref dh0)] := hl
  have hF : f_X10_today d = ((d.1 (0 : Int32).toNatClampNeg) / (24 : Int32)) := rfl
  refine lv_aload_n hx hb dX10_today_0 rfl (lv_at hl 0 rfl) ?_
  refine va_get (D := G.1) (ci := 12) (v := .ref dh1) (C := RX10) (T := TX10) (N := 17) hx hb hts uws_X10 hown hK hP 0 rfl rfl 0 (by decide) (hts _ u_1680) (fun _ h9 => h9) rfl dX10_today_1 ?_
  refine lv_iconst (v := (0 : Int32)) hx hb dX10_today_4 (by decide) ?_
  refine va_iald hx hb hK hP 1 0 rfl rfl (vp_in_nI (n := 0) (by decide) (by decide)) dX10_today_5 ?_
  refine lv_bipush (v := (24 : Int32)) hx hb dX10_today_6 (by decide) ?_
  refine lv_idiv hx hb dX10_today_8 (by decide) ?_
  exact r_ret hx hb hr hlk rfl (by rw [hF]) trivial dX10_today_9
theorem dX10_phase_0 : decode cX10_phase 0 = .ok (.iload_n 1, 1) := by decide +kernel
theorem dX10_phase_1 : decode cX10_phase 1 = .ok (.aload_n 0, 1) := by decide +kernel
theorem dX10_phase_2 : decode cX10_phase 2 = .ok (.getfield 9, 3) := by decide +kernel
theorem dX10_phase_5 : decode cX10_phase 5 = .ok (.iconst 1, 1) := by decide +kernel
theorem dX10_phase_6 : decode cX10_phase 6 = .ok (.iaload, 1) := by decide +kernel
theorem dX10_phase_7 : decode cX10_phase 7 = .ok (.irem, 1) := by decide +kernel
theorem dX10_phase_8 : decode cX10_phase 8 = .ok (.bipush 8, 2) := by decide +kernel
theorem dX10_phase_10 : decode cX10_phase 10 = .ok (.imul, 1) := by decide +kernel
theorem dX10_phase_11 : decode cX10_phase 11 = .ok (.aload_n 0, 1) := by decide +kernel
theorem dX10_phase_12 : decode cX10_phase 12 = .ok (.getfield 9, 3) := by decide +kernel
theorem dX10_phase_15 : decode cX10_phase 15 = .ok (.iconst 1, 1) := by decide +kernel
theorem dX10_phase_16 : decode cX10_phase 16 = .ok (.iaload, 1) := by decide +kernel
theorem dX10_phase_17 : decode cX10_phase 17 = .ok (.idiv, 1) := by decide +kernel
theorem dX10_phase_18 : decode cX10_phase 18 = .ok (.ireturn, 1) := by decide +kernel
def f_X10_phase (d : MoV) (dy : Int32) : Int32 := (((dy - dy / (d.1 (1 : Int32).toNatClampNeg) * (d.1 (1 : Int32).toNatClampNeg)) * (8 : Int32)) / (d.1 (1 : Int32).toNatClampNeg))
def ok_X10_phase (d : MoV) (dy : Int32) : Prop := (¬ (d.1 (1 : Int32).toNatClampNeg) = 0 ∧ (¬ (d.1 (1 : Int32).toNatClampNeg) = 0 ∧ True))
set_option maxHeartbeats 4000000 in
set_option maxRecDepth 100000 in
theorem c_X10_phase (l : Launch) (G : GG) (dh0 : Nat) (dh1 : Nat) (dh2 : Nat) (dh3 : Nat) (dh4 : Nat) (dh5 : Nat) (dh6 : Nat) (dh7 : Nat) (d : MoV) (dy : Int32) (hok : ok_X10_phase d dy) : rMet l yX10_phase cX10_phase 2 (some .int) 1 G (fl [wMo G dh0 dh1 dh2 dh3 dh4 dh5 dh6 dh7 d]) [.ref dh0, .int dy] (some (.int (f_X10_phase d dy))) (True) := by
  refine r_start (by decide +kernel) (Nat.le_of_ble_eq_true rfl) ?_
  intro p e s m below meth c hx hb hr hml hts hown hlk hP hK hST ls hl
  have hS : va_S (fun _ => False) s.heap s.heap [] := va_S.rf
  have hown : s.vm.findClass RX10 = some m.cls := hown
  have hl : lv_has ls 2 [(0, .ref dh0), (1, .int dy)] := hl
  have hF : f_X10_phase d dy = (((dy - dy / (d.1 (1 : Int32).toNatClampNeg) * (d.1 (1 : Int32).toNatClampNeg)) * (8 : Int32)) / (d.1 (1 : Int32).toNatClampNeg)) := rfl
  have hok : (¬ (d.1 (1 : Int32).toNatClampNeg) = 0 ∧ (¬ (d.1 (1 : Int32).toNatClampNeg) = 0 ∧ True)) := hok
  refine lv_iload_n hx hb dX10_phase_0 rfl (lv_at hl 1 rfl) ?_
  refine lv_aload_n hx hb dX10_phase_1 rfl (lv_at hl 0 rfl) ?_
  refine va_get (D := G.1) (ci := 12) (v := .ref dh1) (C := RX10) (T := TX10) (N := 17) hx hb hts uws_X10 hown hK hP 0 rfl rfl 0 (by decide) (hts _ u_1680) (fun _ h9 => h9) rfl dX10_phase_2 ?_
  refine lv_iconst (v := (1 : Int32)) hx hb dX10_phase_5 (by decide) ?_
  refine va_iald hx hb hK hP 1 0 rfl rfl (vp_in_nI (n := 1) (by decide) (by decide)) dX10_phase_6 ?_
  have h_1 := hok.1
  have hok := hok.2
  refine lv_irem hx hb dX10_phase_7 h_1 ?_
  refine lv_bipush (v := (8 : Int32)) hx hb dX10_phase_8 (by decide) ?_
  refine lv_imul hx hb dX10_phase_10 ?_
  refine lv_aload_n hx hb dX10_phase_11 rfl (lv_at hl 0 rfl) ?_
  refine va_get (D := G.1) (ci := 12) (v := .ref dh1) (C := RX10) (T := TX10) (N := 17) hx hb hts uws_X10 hown hK hP 0 rfl rfl 0 (by decide) (hts _ u_1680) (fun _ h9 => h9) rfl dX10_phase_12 ?_
  refine lv_iconst (v := (1 : Int32)) hx hb dX10_phase_15 (by decide) ?_
  refine va_iald hx hb hK hP 1 0 rfl rfl (vp_in_nI (n := 1) (by decide) (by decide)) dX10_phase_16 ?_
  have h_2 := hok.1
  have hok := hok.2
  refine lv_idiv hx hb dX10_phase_17 h_2 ?_
  exact r_ret hx hb hr hlk rfl (by rw [hF]) trivial dX10_phase_18
theorem dX10_isRule_0 : decode cX10_isRule 0 = .ok (.iload_n 0, 1) := by decide +kernel
theorem dX10_isRule_1 : decode cX10_isRule 1 = .ok (.iconst 0, 1) := by decide +kernel
theorem dX10_isRule_2 : decode cX10_isRule 2 = .ok (.sipush 255, 3) := by decide +kernel
theorem dX10_isRule_5 : decode cX10_isRule 5 = .ok (.invokestatic 48, 3) := by decide +kernel
theorem dX10_isRule_8 : decode cX10_isRule 8 = .ok (.ifCond .eq 34, 3) := by decide +kernel
theorem dX10_isRule_42 : decode cX10_isRule 42 = .ok (.iconst 0, 1) := by decide +kernel
theorem dX10_isRule_43 : decode cX10_isRule 43 = .ok (.ireturn, 1) := by decide +kernel
theorem dX10_isRule_11 : decode cX10_isRule 11 = .ok (.iload_n 1, 1) := by decide +kernel
theorem dX10_isRule_12 : decode cX10_isRule 12 = .ok (.iconst 0, 1) := by decide +kernel
theorem dX10_isRule_13 : decode cX10_isRule 13 = .ok (.bipush 23, 2) := by decide +kernel
theorem dX10_isRule_15 : decode cX10_isRule 15 = .ok (.invokestatic 48, 3) := by decide +kernel
theorem dX10_isRule_18 : decode cX10_isRule 18 = .ok (.ifCond .eq 24, 3) := by decide +kernel
theorem dX10_isRule_21 : decode cX10_isRule 21 = .ok (.iload_n 2, 1) := by decide +kernel
theorem dX10_isRule_22 : decode cX10_isRule 22 = .ok (.iconst 0, 1) := by decide +kernel
theorem dX10_isRule_23 : decode cX10_isRule 23 = .ok (.bipush 23, 2) := by decide +kernel
theorem dX10_isRule_25 : decode cX10_isRule 25 = .ok (.invokestatic 48, 3) := by decide +kernel
theorem dX10_isRule_28 : decode cX10_isRule 28 = .ok (.ifCond .eq 14, 3) := by decide +kernel
theorem dX10_isRule_31 : decode cX10_isRule 31 = .ok (.iload_n 3, 1) := by decide +kernel
theorem dX10_isRule_32 : decode cX10_isRule 32 = .ok (.invokestatic 52, 3) := by decide +kernel
theorem u_1753 : Cond.methodLink RX10 52 yX10_isKey ∈ UW := uw 1753 (by decide +kernel) rfl
theorem u_1754 : Cond.static yX10_isKey ∈ UW := uw 1754 (by decide +kernel) rfl
theorem u_1755 : Cond.code yX10_isKey cX10_isKey 1 (some .boolean) ∈ UW := uw 1755 (by decide +kernel) rfl
theorem g_X10_52 : GoodIn UW (va_wsS RX10 52 yX10_isKey (wsU yX10_isKey cX10_isKey 1 (some .boolean))) := gS u_1753 u_1754 u_77 u_1755
theorem hds_X10_isKey : yX10_isKey.cls ≠ "java/lang/invoke/MethodHandle" ∧ yX10_isKey.cls ≠ "java/lang/invoke/VarHandle" ∧ (parseMethodDescriptor yX10_isKey.desc).map (fun d => d.parameters.length) = some 1 := by decide +kernel
theorem dX10_isRule_35 : decode cX10_isRule 35 = .ok (.ifCond .eq 7, 3) := by decide +kernel
theorem dX10_isRule_38 : decode cX10_isRule 38 = .ok (.iconst 1, 1) := by decide +kernel
theorem dX10_isRule_39 : decode cX10_isRule 39 = .ok (.goto 4, 3) := by decide +kernel
def f_X10_isRule (ph : Int32) (fh : Int32) (lh : Int32) (k : Int32) : Int32 := (if (f_X10_isIn ph (0 : Int32) (255 : Int32)) = (0 : Int32) then (0 : Int32) else (if (f_X10_isIn fh (0 : Int32) (23 : Int32)) = (0 : Int32) then (0 : Int32) else (if (f_X10_isIn lh (0 : Int32) (23 : Int32)) = (0 : Int32) then (0 : Int32) else (if (f_X10_isKey k) = (0 : Int32) then (0 : Int32) else (1 : Int32)))))
set_option maxHeartbeats 4000000 in
set_option maxRecDepth 100000 in
theorem c_X10_isRule (l : Launch) (G : GG)  (ph : Int32) (fh : Int32) (lh : Int32) (k : Int32) : rMet l yX10_isRule cX10_isRule 4 (some .boolean) 3 G (fl []) [.int ph, .int fh, .int lh, .int k] (some (.int (f_X10_isRule ph fh lh k))) (narrow .boolean (.int (f_X10_isRule ph fh lh k)) = .int (f_X10_isRule ph fh lh k)) := by
  refine r_start (by decide +kernel) (Nat.le_of_ble_eq_true rfl) ?_
  intro p e s m below meth c hx hb hr hml hts hown hlk hP hK hST ls hl
  have hS : va_S (fun _ => False) s.heap s.heap [] := va_S.rf
  have hown : s.vm.findClass RX10 = some m.cls := hown
  have hl : lv_has ls 4 [(0, .int ph), (1, .int fh), (2, .int lh), (3, .int k)] := hl
  have hF : f_X10_isRule ph fh lh k = (if (f_X10_isIn ph (0 : Int32) (255 : Int32)) = (0 : Int32) then (0 : Int32) else (if (f_X10_isIn fh (0 : Int32) (23 : Int32)) = (0 : Int32) then (0 : Int32) else (if (f_X10_isIn lh (0 : Int32) (23 : Int32)) = (0 : Int32) then (0 : Int32) else (if (f_X10_isKey k) = (0 : Int32) then (0 : Int32) else (1 : Int32))))) := rfl
  refine lv_iload_n hx hb dX10_isRule_0 rfl (lv_at hl 0 rfl) ?_
  refine lv_iconst (v := (0 : Int32)) hx hb dX10_isRule_1 (by decide) ?_
  refine lv_sipush (v := (255 : Int32)) hx hb dX10_isRule_2 (by decide) ?_
  refine r_S (own := RX10) (v := (some (.int (f_X10_isIn ph (0 : Int32) (255 : Int32))))) (st1 := [.int (f_X10_isIn ph (0 : Int32) (255 : Int32))]) (As := [.int ph, .int (0 : Int32), .int (255 : Int32)]) (rest := []) (c_X10_isIn l G ph (0 : Int32) (255 : Int32)) ⟨hx, hb, hml, hown, hts⟩ g_X10_48 hds_X10_isIn hK hST hS hP [] rfl ⟨Nat.le_of_ble_eq_true rfl, Nat.le_of_ble_eq_true rfl⟩ ⟨Nat.le_of_ble_eq_true rfl, Nat.le_of_ble_eq_true rfl⟩ rfl hl.1 rfl (Nat.le_of_ble_eq_true rfl) dX10_isRule_5 rfl (fun b_1 => ?_)
  refine lv_if_eq (tgt := 42) hx hb dX10_isRule_8 (by decide) (fun c_2 => ?_) (fun c_2 => ?_)
  · have hF := hF.trans (if_pos c_2)
    refine lv_iconst (v := (0 : Int32)) hx hb dX10_isRule_42 (by decide) ?_
    exact r_ret hx hb hr hlk rfl (by rw [hF]) (by rw [hF]; exact (rfl : narrow .boolean (.int (0 : Int32)) = .int (0 : Int32))) dX10_isRule_43
  · have hF := hF.trans (if_neg c_2)
    refine lv_iload_n hx hb dX10_isRule_11 rfl (lv_at hl 1 rfl) ?_
    refine lv_iconst (v := (0 : Int32)) hx hb dX10_isRule_12 (by decide) ?_
    refine lv_bipush (v := (23 : Int32)) hx hb dX10_isRule_13 (by decide) ?_
    refine r_S (own := RX10) (v := (some (.int (f_X10_isIn fh (0 : Int32) (23 : Int32))))) (st1 := [.int (f_X10_isIn fh (0 : Int32) (23 : Int32))]) (As := [.int fh, .int (0 : Int32), .int (23 : Int32)]) (rest := []) (c_X10_isIn l G fh (0 : Int32) (23 : Int32)) ⟨hx, hb, hml, hown, hts⟩ g_X10_48 hds_X10_isIn hK hST hS hP [] rfl ⟨Nat.le_of_ble_eq_true rfl, Nat.le_of_ble_eq_true rfl⟩ ⟨Nat.le_of_ble_eq_true rfl, Nat.le_of_ble_eq_true rfl⟩ rfl hl.1 rfl (Nat.le_of_ble_eq_true rfl) dX10_isRule_15 rfl (fun b_3 => ?_)
    refine lv_if_eq (tgt := 42) hx hb dX10_isRule_18 (by decide) (fun c_4 => ?_) (fun c_4 => ?_)
    · have hF := hF.trans (if_pos c_4)
      refine lv_iconst (v := (0 : Int32)) hx hb dX10_isRule_42 (by decide) ?_
      exact r_ret hx hb hr hlk rfl (by rw [hF]) (by rw [hF]; exact (rfl : narrow .boolean (.int (0 : Int32)) = .int (0 : Int32))) dX10_isRule_43
    · have hF := hF.trans (if_neg c_4)
      refine lv_iload_n hx hb dX10_isRule_21 rfl (lv_at hl 2 rfl) ?_
      refine lv_iconst (v := (0 : Int32)) hx hb dX10_isRule_22 (by decide) ?_
      refine lv_bipush (v := (23 : Int32)) hx hb dX10_isRule_23 (by decide) ?_
      refine r_S (own := RX10) (v := (some (.int (f_X10_isIn lh (0 : Int32) (23 : Int32))))) (st1 := [.int (f_X10_isIn lh (0 : Int32) (23 : Int32))]) (As := [.int lh, .int (0 : Int32), .int (23 : Int32)]) (rest := []) (c_X10_isIn l G lh (0 : Int32) (23 : Int32)) ⟨hx, hb, hml, hown, hts⟩ g_X10_48 hds_X10_isIn hK hST hS hP [] rfl ⟨Nat.le_of_ble_eq_true rfl, Nat.le_of_ble_eq_true rfl⟩ ⟨Nat.le_of_ble_eq_true rfl, Nat.le_of_ble_eq_true rfl⟩ rfl hl.1 rfl (Nat.le_of_ble_eq_true rfl) dX10_isRule_25 rfl (fun b_5 => ?_)
      refine lv_if_eq (tgt := 42) hx hb dX10_isRule_28 (by decide) (fun c_6 => ?_) (fun c_6 => ?_)
      · have hF := hF.trans (if_pos c_6)
        refine lv_iconst (v := (0 : Int32)) hx hb dX10_isRule_42 (by decide) ?_
        exact r_ret hx hb hr hlk rfl (by rw [hF]) (by rw [hF]; exact (rfl : narrow .boolean (.int (0 : Int32)) = .int (0 : Int32))) dX10_isRule_43
      · have hF := hF.trans (if_neg c_6)
        refine lv_iload_n hx hb dX10_isRule_31 rfl (lv_at hl 3 rfl) ?_
        refine r_S (own := RX10) (v := (some (.int (f_X10_isKey k)))) (st1 := [.int (f_X10_isKey k)]) (As := [.int k]) (rest := []) (c_X10_isKey l G k) ⟨hx, hb, hml, hown, hts⟩ g_X10_52 hds_X10_isKey hK hST hS hP [] rfl ⟨Nat.le_of_ble_eq_true rfl, Nat.le_of_ble_eq_true rfl⟩ ⟨Nat.le_of_ble_eq_true rfl, Nat.le_of_ble_eq_true rfl⟩ rfl hl.1 rfl (Nat.le_of_ble_eq_true rfl) dX10_isRule_32 rfl (fun b_7 => ?_)
        refine lv_if_eq (tgt := 42) hx hb dX10_isRule_35 (by decide) (fun c_8 => ?_) (fun c_8 => ?_)
        · have hF := hF.trans (if_pos c_8)
          refine lv_iconst (v := (0 : Int32)) hx hb dX10_isRule_42 (by decide) ?_
          exact r_ret hx hb hr hlk rfl (by rw [hF]) (by rw [hF]; exact (rfl : narrow .boolean (.int (0 : Int32)) = .int (0 : Int32))) dX10_isRule_43
        · have hF := hF.trans (if_neg c_8)
          refine lv_iconst (v := (1 : Int32)) hx hb dX10_isRule_38 (by decide) ?_
          refine lv_goto (tgt := 43) hx hb dX10_isRule_39 (by decide) ?_
          exact r_ret hx hb hr hlk rfl (by rw [hF]) (by rw [hF]; exact (rfl : narrow .boolean (.int (1 : Int32)) = .int (1 : Int32))) dX10_isRule_43
theorem dX10_rules_0 : decode cX10_rules 0 = .ok (.bipush 11, 2) := by decide +kernel
theorem dX10_rules_2 : decode cX10_rules 2 = .ok (.iconst 4, 1) := by decide +kernel
theorem dX10_rules_3 : decode cX10_rules 3 = .ok (.iload_n 1, 1) := by decide +kernel
theorem dX10_rules_4 : decode cX10_rules 4 = .ok (.imul, 1) := by decide +kernel
theorem dX10_rules_5 : decode cX10_rules 5 = .ok (.iadd, 1) := by decide +kernel
theorem dX10_rules_6 : decode cX10_rules 6 = .ok (.istore 6, 2) := by decide +kernel
theorem dX10_rules_8 : decode cX10_rules 8 = .ok (.aload_n 0, 1) := by decide +kernel
theorem dX10_rules_9 : decode cX10_rules 9 = .ok (.getfield 9, 3) := by decide +kernel
theorem dX10_rules_12 : decode cX10_rules 12 = .ok (.iload 6, 2) := by decide +kernel
theorem dX10_rules_14 : decode cX10_rules 14 = .ok (.iconst 0, 1) := by decide +kernel
theorem dX10_rules_15 : decode cX10_rules 15 = .ok (.iadd, 1) := by decide +kernel
theorem dX10_rules_16 : decode cX10_rules 16 = .ok (.iload_n 2, 1) := by decide +kernel
theorem dX10_rules_17 : decode cX10_rules 17 = .ok (.iastore, 1) := by decide +kernel
theorem dX10_rules_18 : decode cX10_rules 18 = .ok (.aload_n 0, 1) := by decide +kernel
theorem dX10_rules_19 : decode cX10_rules 19 = .ok (.getfield 9, 3) := by decide +kernel
theorem dX10_rules_22 : decode cX10_rules 22 = .ok (.iload 6, 2) := by decide +kernel
theorem dX10_rules_24 : decode cX10_rules 24 = .ok (.iconst 1, 1) := by decide +kernel
theorem dX10_rules_25 : decode cX10_rules 25 = .ok (.iadd, 1) := by decide +kernel
theorem dX10_rules_26 : decode cX10_rules 26 = .ok (.iload_n 3, 1) := by decide +kernel
theorem dX10_rules_27 : decode cX10_rules 27 = .ok (.iastore, 1) := by decide +kernel
theorem dX10_rules_28 : decode cX10_rules 28 = .ok (.aload_n 0, 1) := by decide +kernel
theorem dX10_rules_29 : decode cX10_rules 29 = .ok (.getfield 9, 3) := by decide +kernel
theorem dX10_rules_32 : decode cX10_rules 32 = .ok (.iload 6, 2) := by decide +kernel
theorem dX10_rules_34 : decode cX10_rules 34 = .ok (.iconst 2, 1) := by decide +kernel
theorem dX10_rules_35 : decode cX10_rules 35 = .ok (.iadd, 1) := by decide +kernel
theorem dX10_rules_36 : decode cX10_rules 36 = .ok (.iload 4, 2) := by decide +kernel
theorem dX10_rules_38 : decode cX10_rules 38 = .ok (.iastore, 1) := by decide +kernel
theorem dX10_rules_39 : decode cX10_rules 39 = .ok (.aload_n 0, 1) := by decide +kernel
theorem dX10_rules_40 : decode cX10_rules 40 = .ok (.getfield 9, 3) := by decide +kernel
theorem dX10_rules_43 : decode cX10_rules 43 = .ok (.iload 6, 2) := by decide +kernel
theorem dX10_rules_45 : decode cX10_rules 45 = .ok (.iconst 3, 1) := by decide +kernel
theorem dX10_rules_46 : decode cX10_rules 46 = .ok (.iadd, 1) := by decide +kernel
theorem dX10_rules_47 : decode cX10_rules 47 = .ok (.iload 5, 2) := by decide +kernel
theorem dX10_rules_49 : decode cX10_rules 49 = .ok (.iastore, 1) := by decide +kernel
theorem dX10_rules_50 : decode cX10_rules 50 = .ok (.return_, 1) := by decide +kernel
def f_X10_rules (d : MoV) (dr : Int32) (ph : Int32) (fh : Int32) (lh : Int32) (k : Int32) : MoV := (mo0 d (upd (upd (upd (upd d.1 (((11 : Int32) + ((4 : Int32) * dr)) + (0 : Int32)).toNatClampNeg ph) (((11 : Int32) + ((4 : Int32) * dr)) + (1 : Int32)).toNatClampNeg fh) (((11 : Int32) + ((4 : Int32) * dr)) + (2 : Int32)).toNatClampNeg lh) (((11 : Int32) + ((4 : Int32) * dr)) + (3 : Int32)).toNatClampNeg k))
def ok_X10_rules (d : MoV) (dr : Int32) (ph : Int32) (fh : Int32) (lh : Int32) (k : Int32) : Prop := (vp_in (((11 : Int32) + ((4 : Int32) * dr)) + (0 : Int32)) 249 ∧ (vp_in (((11 : Int32) + ((4 : Int32) * dr)) + (1 : Int32)) 249 ∧ (vp_in (((11 : Int32) + ((4 : Int32) * dr)) + (2 : Int32)) 249 ∧ (vp_in (((11 : Int32) + ((4 : Int32) * dr)) + (3 : Int32)) 249 ∧ True))))
set_option maxHeartbeats 4000000 in
set_option maxRecDepth 100000 in
theorem c_X10_rules (l : Launch) (G : GG) (dh0 : Nat) (dh1 : Nat) (dh2 : Nat) (dh3 : Nat) (dh4 : Nat) (dh5 : Nat) (dh6 : Nat) (dh7 : Nat) (sz : Nat) (d : MoV) (dr : Int32) (ph : Int32) (fh : Int32) (lh : Int32) (k : Int32) (hok : ok_X10_rules d dr ph fh lh k) : wMet l yX10_rules cX10_rules 7 none 1 0 0 G (fl [wMo G dh0 dh1 dh2 dh3 dh4 dh5 dh6 dh7 d]) [.ref dh0, .int dr, .int ph, .int fh, .int lh, .int k] sz (fun u : MoV => none) (fun u : MoV => u = f_X10_rules d dr ph fh lh k) (fun u : MoV => fl [wMo G dh0 dh1 dh2 dh3 dh4 dh5 dh6 dh7 u]) := by
  refine w_start (by decide +kernel) (Nat.le_of_ble_eq_true rfl) ?_
  intro p e s m below meth c A hx hb hr hml hts hown hlk hin hP hD hA hK hST ls hl
  have hS : va_S A s.heap s.heap [] := va_S.rf
  have hown : s.vm.findClass RX10 = some m.cls := hown
  have hl : lv_has ls 7 [(0, .ref dh0), (1, .int dr), (2, .int ph), (3, .int fh), (4, .int lh), (5, .int k)] := hl
  have hF : f_X10_rules d dr ph fh lh k = (mo0 d (upd (upd (upd (upd d.1 (((11 : Int32) + ((4 : Int32) * dr)) + (0 : Int32)).toNatClampNeg ph) (((11 : Int32) + ((4 : Int32) * dr)) + (1 : Int32)).toNatClampNeg fh) (((11 : Int32) + ((4 : Int32) * dr)) + (2 : Int32)).toNatClampNeg lh) (((11 : Int32) + ((4 : Int32) * dr)) + (3 : Int32)).toNatClampNeg k)) := rfl
  have hok : (vp_in (((11 : Int32) + ((4 : Int32) * dr)) + (0 : Int32)) 249 ∧ (vp_in (((11 : Int32) + ((4 : Int32) * dr)) + (1 : Int32)) 249 ∧ (vp_in (((11 : Int32) + ((4 : Int32) * dr)) + (2 : Int32)) 249 ∧ (vp_in (((11 : Int32) + ((4 : Int32) * dr)) + (3 : Int32)) 249 ∧ True)))) := hok
  refine lv_bipush (v := (11 : Int32)) hx hb dX10_rules_0 (by decide) ?_
  refine lv_iconst (v := (4 : Int32)) hx hb dX10_rules_2 (by decide) ?_
  refine lv_iload_n hx hb dX10_rules_3 rfl (lv_at hl 1 rfl) ?_
  refine lv_imul hx hb dX10_rules_4 ?_
  refine lv_iadd hx hb dX10_rules_5 ?_
  refine lv_istore (lv' := [(6, .int ((11 : Int32) + ((4 : Int32) * dr))), (0, .ref dh0), (1, .int dr), (2, .int ph), (3, .int fh), (4, .int lh), (5, .int k)]) hx hb dX10_rules_6 hl (by decide) rfl (fun ls hl => ?_)
  refine lv_aload_n hx hb dX10_rules_8 rfl (lv_at hl 1 rfl) ?_
  refine va_get (D := G.1) (ci := 12) (v := .ref dh1) (C := RX10) (T := TX10) (N := 17) hx hb hts uws_X10 hown hK hP 0 rfl rfl 0 (by decide) (hts _ u_1680) (fun _ h9 => h9) rfl dX10_rules_9 ?_
  refine lv_iload hx hb dX10_rules_12 (lv_at hl 0 rfl) ?_
  refine lv_iconst (v := (0 : Int32)) hx hb dX10_rules_14 (by decide) ?_
  refine lv_iadd hx hb dX10_rules_15 ?_
  refine lv_iload_n hx hb dX10_rules_16 rfl (lv_at hl 3 rfl) ?_
  have h_1 := hok.1
  have hok := hok.2
  refine va_iast hx hb hK hP hD hS 1 0 rfl rfl h_1 dX10_rules_17 (fun H locs hP hD hS => ?_)
  have hP : va_P G.1 vwCl (fl [wMo G dh0 dh1 dh2 dh3 dh4 dh5 dh6 dh7 (mo0 d (upd d.1 (((11 : Int32) + ((4 : Int32) * dr)) + (0 : Int32)).toNatClampNeg ph))]) H := hP
  have hD : va_D A (fl [wMo G dh0 dh1 dh2 dh3 dh4 dh5 dh6 dh7 (mo0 d (upd d.1 (((11 : Int32) + ((4 : Int32) * dr)) + (0 : Int32)).toNatClampNeg ph))]) := hD
  refine lv_aload_n hx hb dX10_rules_18 rfl (lv_at hl 1 rfl) ?_
  refine va_get (D := G.1) (ci := 12) (v := .ref dh1) (C := RX10) (T := TX10) (N := 17) hx hb hts uws_X10 hown hK hP 0 rfl rfl 0 (by decide) (hts _ u_1680) (fun _ h9 => h9) rfl dX10_rules_19 ?_
  refine lv_iload hx hb dX10_rules_22 (lv_at hl 0 rfl) ?_
  refine lv_iconst (v := (1 : Int32)) hx hb dX10_rules_24 (by decide) ?_
  refine lv_iadd hx hb dX10_rules_25 ?_
  refine lv_iload_n hx hb dX10_rules_26 rfl (lv_at hl 4 rfl) ?_
  have h_2 := hok.1
  have hok := hok.2
  refine va_iast hx hb hK hP hD hS 1 0 rfl rfl h_2 dX10_rules_27 (fun H locs hP hD hS => ?_)
  have hP : va_P G.1 vwCl (fl [wMo G dh0 dh1 dh2 dh3 dh4 dh5 dh6 dh7 (mo0 d (upd (upd d.1 (((11 : Int32) + ((4 : Int32) * dr)) + (0 : Int32)).toNatClampNeg ph) (((11 : Int32) + ((4 : Int32) * dr)) + (1 : Int32)).toNatClampNeg fh))]) H := hP
  have hD : va_D A (fl [wMo G dh0 dh1 dh2 dh3 dh4 dh5 dh6 dh7 (mo0 d (upd (upd d.1 (((11 : Int32) + ((4 : Int32) * dr)) + (0 : Int32)).toNatClampNeg ph) (((11 : Int32) + ((4 : Int32) * dr)) + (1 : Int32)).toNatClampNeg fh))]) := hD
  refine lv_aload_n hx hb dX10_rules_28 rfl (lv_at hl 1 rfl) ?_
  refine va_get (D := G.1) (ci := 12) (v := .ref dh1) (C := RX10) (T := TX10) (N := 17) hx hb hts uws_X10 hown hK hP 0 rfl rfl 0 (by decide) (hts _ u_1680) (fun _ h9 => h9) rfl dX10_rules_29 ?_
  refine lv_iload hx hb dX10_rules_32 (lv_at hl 0 rfl) ?_
  refine lv_iconst (v := (2 : Int32)) hx hb dX10_rules_34 (by decide) ?_
  refine lv_iadd hx hb dX10_rules_35 ?_
  refine lv_iload hx hb dX10_rules_36 (lv_at hl 5 rfl) ?_
  have h_3 := hok.1
  have hok := hok.2
  refine va_iast hx hb hK hP hD hS 1 0 rfl rfl h_3 dX10_rules_38 (fun H locs hP hD hS => ?_)
  have hP : va_P G.1 vwCl (fl [wMo G dh0 dh1 dh2 dh3 dh4 dh5 dh6 dh7 (mo0 d (upd (upd (upd d.1 (((11 : Int32) + ((4 : Int32) * dr)) + (0 : Int32)).toNatClampNeg ph) (((11 : Int32) + ((4 : Int32) * dr)) + (1 : Int32)).toNatClampNeg fh) (((11 : Int32) + ((4 : Int32) * dr)) + (2 : Int32)).toNatClampNeg lh))]) H := hP
  have hD : va_D A (fl [wMo G dh0 dh1 dh2 dh3 dh4 dh5 dh6 dh7 (mo0 d (upd (upd (upd d.1 (((11 : Int32) + ((4 : Int32) * dr)) + (0 : Int32)).toNatClampNeg ph) (((11 : Int32) + ((4 : Int32) * dr)) + (1 : Int32)).toNatClampNeg fh) (((11 : Int32) + ((4 : Int32) * dr)) + (2 : Int32)).toNatClampNeg lh))]) := hD
  refine lv_aload_n hx hb dX10_rules_39 rfl (lv_at hl 1 rfl) ?_
  refine va_get (D := G.1) (ci := 12) (v := .ref dh1) (C := RX10) (T := TX10) (N := 17) hx hb hts uws_X10 hown hK hP 0 rfl rfl 0 (by decide) (hts _ u_1680) (fun _ h9 => h9) rfl dX10_rules_40 ?_
  refine lv_iload hx hb dX10_rules_43 (lv_at hl 0 rfl) ?_
  refine lv_iconst (v := (3 : Int32)) hx hb dX10_rules_45 (by decide) ?_
  refine lv_iadd hx hb dX10_rules_46 ?_
  refine lv_iload hx hb dX10_rules_47 (lv_at hl 6 rfl) ?_
  have h_4 := hok.1
  have hok := hok.2
  refine va_iast hx hb hK hP hD hS 1 0 rfl rfl h_4 dX10_rules_49 (fun H locs hP hD hS => ?_)
  have hP : va_P G.1 vwCl (fl [wMo G dh0 dh1 dh2 dh3 dh4 dh5 dh6 dh7 (mo0 d (upd (upd (upd (upd d.1 (((11 : Int32) + ((4 : Int32) * dr)) + (0 : Int32)).toNatClampNeg ph) (((11 : Int32) + ((4 : Int32) * dr)) + (1 : Int32)).toNatClampNeg fh) (((11 : Int32) + ((4 : Int32) * dr)) + (2 : Int32)).toNatClampNeg lh) (((11 : Int32) + ((4 : Int32) * dr)) + (3 : Int32)).toNatClampNeg k))]) H := hP
  have hD : va_D A (fl [wMo G dh0 dh1 dh2 dh3 dh4 dh5 dh6 dh7 (mo0 d (upd (upd (upd (upd d.1 (((11 : Int32) + ((4 : Int32) * dr)) + (0 : Int32)).toNatClampNeg ph) (((11 : Int32) + ((4 : Int32) * dr)) + (1 : Int32)).toNatClampNeg fh) (((11 : Int32) + ((4 : Int32) * dr)) + (2 : Int32)).toNatClampNeg lh) (((11 : Int32) + ((4 : Int32) * dr)) + (3 : Int32)).toNatClampNeg k))]) := hD
  exact w_retV (u := (mo0 d (upd (upd (upd (upd d.1 (((11 : Int32) + ((4 : Int32) * dr)) + (0 : Int32)).toNatClampNeg ph) (((11 : Int32) + ((4 : Int32) * dr)) + (1 : Int32)).toNatClampNeg fh) (((11 : Int32) + ((4 : Int32) * dr)) + (2 : Int32)).toNatClampNeg lh) (((11 : Int32) + ((4 : Int32) * dr)) + (3 : Int32)).toNatClampNeg k))) hx hb hr hlk hS rfl hF.symm hP hD (Nat.le_of_ble_eq_true rfl) (Nat.le_of_ble_eq_true rfl) dX10_rules_50
theorem dX10_addDoor_0 : decode cX10_addDoor 0 = .ok (.aload_n 0, 1) := by decide +kernel
theorem dX10_addDoor_1 : decode cX10_addDoor 1 = .ok (.invokevirtual 56, 3) := by decide +kernel
theorem u_1740 : Cond.methodLink RX10 56 yX10_keeps ∈ UW := uw 1740 (by decide +kernel) rfl
theorem u_1742 : Cond.instanceMethod yX10_keeps ∈ UW := uw 1742 (by decide +kernel) rfl
theorem u_20 : Cond.selects RX10 yX10_keeps yX10_keeps ∈ UW := uw 20 (by decide +kernel) rfl
theorem u_1743 : Cond.code yX10_keeps cX10_keeps 1 none ∈ UW := uw 1743 (by decide +kernel) rfl
theorem g_X10_56 : GoodIn UW (wsV RX10 56 RX10 yX10_keeps (wsU yX10_keeps cX10_keeps 1 none)) := gV u_1740 u_1742 u_20 u_77 u_1743
theorem hdv_X10_keeps : yX10_keeps.cls = RX10 ∧ yX10_keeps.cls ≠ "java/lang/invoke/MethodHandle" ∧ yX10_keeps.cls ≠ "java/lang/invoke/VarHandle" ∧ (parseMethodDescriptor yX10_keeps.desc).map (fun d => d.parameters.length) = some 0 := by decide +kernel
theorem dX10_addDoor_4 : decode cX10_addDoor 4 = .ok (.aload_n 0, 1) := by decide +kernel
theorem dX10_addDoor_5 : decode cX10_addDoor 5 = .ok (.iload_n 1, 1) := by decide +kernel
theorem dX10_addDoor_6 : decode cX10_addDoor 6 = .ok (.iload_n 2, 1) := by decide +kernel
theorem dX10_addDoor_7 : decode cX10_addDoor 7 = .ok (.iload_n 3, 1) := by decide +kernel
theorem dX10_addDoor_8 : decode cX10_addDoor 8 = .ok (.iload 4, 2) := by decide +kernel
theorem dX10_addDoor_10 : decode cX10_addDoor 10 = .ok (.invokestatic 59, 3) := by decide +kernel
theorem u_1747 : Cond.methodLink RX10 59 yX10_isRule ∈ UW := uw 1747 (by decide +kernel) rfl
theorem u_1748 : Cond.static yX10_isRule ∈ UW := uw 1748 (by decide +kernel) rfl
theorem u_1749 : Cond.code yX10_isRule cX10_isRule 4 (some .boolean) ∈ UW := uw 1749 (by decide +kernel) rfl
theorem g_X10_59 : GoodIn UW (va_wsS RX10 59 yX10_isRule (wsU yX10_isRule cX10_isRule 4 (some .boolean))) := gS u_1747 u_1748 u_77 u_1749
theorem hds_X10_isRule : yX10_isRule.cls ≠ "java/lang/invoke/MethodHandle" ∧ yX10_isRule.cls ≠ "java/lang/invoke/VarHandle" ∧ (parseMethodDescriptor yX10_isRule.desc).map (fun d => d.parameters.length) = some 4 := by decide +kernel
theorem dX10_addDoor_13 : decode cX10_addDoor 13 = .ok (.ifCond .ne 7, 3) := by decide +kernel
theorem dX10_addDoor_20 : decode cX10_addDoor 20 = .ok (.iconst 0, 1) := by decide +kernel
theorem dX10_addDoor_21 : decode cX10_addDoor 21 = .ok (.iconst 1, 1) := by decide +kernel
theorem dX10_addDoor_22 : decode cX10_addDoor 22 = .ok (.invokevirtual 63, 3) := by decide +kernel
theorem u_1756 : Cond.methodLink RX10 63 yX10_isThrown ∈ UW := uw 1756 (by decide +kernel) rfl
theorem u_1758 : Cond.instanceMethod yX10_isThrown ∈ UW := uw 1758 (by decide +kernel) rfl
theorem u_21 : Cond.selects RX10 yX10_isThrown yX10_isThrown ∈ UW := uw 21 (by decide +kernel) rfl
theorem u_1759 : Cond.code yX10_isThrown cX10_isThrown 3 (some .boolean) ∈ UW := uw 1759 (by decide +kernel) rfl
theorem g_X10_63 : GoodIn UW (wsV RX10 63 RX10 yX10_isThrown (wsU yX10_isThrown cX10_isThrown 3 (some .boolean))) := gV u_1756 u_1758 u_21 u_77 u_1759
theorem hdv_X10_isThrown : yX10_isThrown.cls = RX10 ∧ yX10_isThrown.cls ≠ "java/lang/invoke/MethodHandle" ∧ yX10_isThrown.cls ≠ "java/lang/invoke/VarHandle" ∧ (parseMethodDescriptor yX10_isThrown.desc).map (fun d => d.parameters.length) = some 2 := by decide +kernel
theorem dX10_addDoor_25 : decode cX10_addDoor 25 = .ok (.ifCond .ne 27, 3) := by decide +kernel
theorem dX10_addDoor_28 : decode cX10_addDoor 28 = .ok (.aload_n 0, 1) := by decide +kernel
theorem dX10_addDoor_29 : decode cX10_addDoor 29 = .ok (.aload_n 0, 1) := by decide +kernel
theorem dX10_addDoor_30 : decode cX10_addDoor 30 = .ok (.getfield 9, 3) := by decide +kernel
theorem dX10_addDoor_33 : decode cX10_addDoor 33 = .ok (.iconst 2, 1) := by decide +kernel
theorem dX10_addDoor_34 : decode cX10_addDoor 34 = .ok (.iaload, 1) := by decide +kernel
theorem dX10_addDoor_35 : decode cX10_addDoor 35 = .ok (.bipush 8, 2) := by decide +kernel
theorem dX10_addDoor_37 : decode cX10_addDoor 37 = .ok (.if_icmp .ne 7, 3) := by decide +kernel
theorem dX10_addDoor_44 : decode cX10_addDoor 44 = .ok (.iconst 0, 1) := by decide +kernel
theorem dX10_addDoor_45 : decode cX10_addDoor 45 = .ok (.iconst 2, 1) := by decide +kernel
theorem dX10_addDoor_46 : decode cX10_addDoor 46 = .ok (.invokevirtual 63, 3) := by decide +kernel
theorem dX10_addDoor_49 : decode cX10_addDoor 49 = .ok (.ifCond .eq 5, 3) := by decide +kernel
theorem dX10_addDoor_54 : decode cX10_addDoor 54 = .ok (.aload_n 0, 1) := by decide +kernel
theorem dX10_addDoor_55 : decode cX10_addDoor 55 = .ok (.aload_n 0, 1) := by decide +kernel
theorem dX10_addDoor_56 : decode cX10_addDoor 56 = .ok (.getfield 9, 3) := by decide +kernel
theorem dX10_addDoor_59 : decode cX10_addDoor 59 = .ok (.iconst 2, 1) := by decide +kernel
theorem dX10_addDoor_60 : decode cX10_addDoor 60 = .ok (.iaload, 1) := by decide +kernel
theorem dX10_addDoor_61 : decode cX10_addDoor 61 = .ok (.iload_n 1, 1) := by decide +kernel
theorem dX10_addDoor_62 : decode cX10_addDoor 62 = .ok (.iload_n 2, 1) := by decide +kernel
theorem dX10_addDoor_63 : decode cX10_addDoor 63 = .ok (.iload_n 3, 1) := by decide +kernel
theorem dX10_addDoor_64 : decode cX10_addDoor 64 = .ok (.iload 4, 2) := by decide +kernel
theorem dX10_addDoor_66 : decode cX10_addDoor 66 = .ok (.invokevirtual 67, 3) := by decide +kernel
theorem u_1760 : Cond.methodLink RX10 67 yX10_rules ∈ UW := uw 1760 (by decide +kernel) rfl
theorem u_1762 : Cond.instanceMethod yX10_rules ∈ UW := uw 1762 (by decide +kernel) rfl
theorem u_22 : Cond.selects RX10 yX10_rules yX10_rules ∈ UW := uw 22 (by decide +kernel) rfl
theorem u_1763 : Cond.code yX10_rules cX10_rules 7 none ∈ UW := uw 1763 (by decide +kernel) rfl
theorem g_X10_67 : GoodIn UW (wsV RX10 67 RX10 yX10_rules (wsU yX10_rules cX10_rules 7 none)) := gV u_1760 u_1762 u_22 u_77 u_1763
theorem hdv_X10_rules : yX10_rules.cls = RX10 ∧ yX10_rules.cls ≠ "java/lang/invoke/MethodHandle" ∧ yX10_rules.cls ≠ "java/lang/invoke/VarHandle" ∧ (parseMethodDescriptor yX10_rules.desc).map (fun d => d.parameters.length) = some 5 := by decide +kernel
theorem dX10_addDoor_69 : decode cX10_addDoor 69 = .ok (.aload_n 0, 1) := by decide +kernel
theorem dX10_addDoor_70 : decode cX10_addDoor 70 = .ok (.getfield 9, 3) := by decide +kernel
theorem dX10_addDoor_73 : decode cX10_addDoor 73 = .ok (.iconst 2, 1) := by decide +kernel
theorem dX10_addDoor_74 : decode cX10_addDoor 74 = .ok (.dup2, 1) := by decide +kernel
theorem dX10_addDoor_75 : decode cX10_addDoor 75 = .ok (.iaload, 1) := by decide +kernel
theorem dX10_addDoor_76 : decode cX10_addDoor 76 = .ok (.iconst 1, 1) := by decide +kernel
theorem dX10_addDoor_77 : decode cX10_addDoor 77 = .ok (.iadd, 1) := by decide +kernel
theorem dX10_addDoor_78 : decode cX10_addDoor 78 = .ok (.iastore, 1) := by decide +kernel
theorem dX10_addDoor_79 : decode cX10_addDoor 79 = .ok (.aload_n 0, 1) := by decide +kernel
theorem dX10_addDoor_80 : decode cX10_addDoor 80 = .ok (.aload_n 0, 1) := by decide +kernel
theorem dX10_addDoor_81 : decode cX10_addDoor 81 = .ok (.getfield 9, 3) := by decide +kernel
theorem dX10_addDoor_84 : decode cX10_addDoor 84 = .ok (.iconst 2, 1) := by decide +kernel
theorem dX10_addDoor_85 : decode cX10_addDoor 85 = .ok (.iaload, 1) := by decide +kernel
theorem dX10_addDoor_86 : decode cX10_addDoor 86 = .ok (.iconst 1, 1) := by decide +kernel
theorem dX10_addDoor_87 : decode cX10_addDoor 87 = .ok (.isub, 1) := by decide +kernel
theorem dX10_addDoor_88 : decode cX10_addDoor 88 = .ok (.invokevirtual 71, 3) := by decide +kernel
theorem u_1764 : Cond.methodLink RX10 71 yX10_ends ∈ UW := uw 1764 (by decide +kernel) rfl
theorem u_1766 : Cond.instanceMethod yX10_ends ∈ UW := uw 1766 (by decide +kernel) rfl
theorem u_23 : Cond.selects RX10 yX10_ends yX10_ends ∈ UW := uw 23 (by decide +kernel) rfl
theorem u_1767 : Cond.code yX10_ends cX10_ends 3 (some .int) ∈ UW := uw 1767 (by decide +kernel) rfl
theorem g_X10_71 : GoodIn UW (wsV RX10 71 RX10 yX10_ends (wsU yX10_ends cX10_ends 3 (some .int))) := gV u_1764 u_1766 u_23 u_77 u_1767
theorem hdv_X10_ends : yX10_ends.cls = RX10 ∧ yX10_ends.cls ≠ "java/lang/invoke/MethodHandle" ∧ yX10_ends.cls ≠ "java/lang/invoke/VarHandle" ∧ (parseMethodDescriptor yX10_ends.desc).map (fun d => d.parameters.length) = some 1 := by decide +kernel
theorem dX10_addDoor_91 : decode cX10_addDoor 91 = .ok (.ireturn, 1) := by decide +kernel
theorem dX10_addDoor_40 : decode cX10_addDoor 40 = .ok (.iconst 1, 1) := by decide +kernel
theorem dX10_addDoor_41 : decode cX10_addDoor 41 = .ok (.goto 4, 3) := by decide +kernel
theorem dX10_addDoor_52 : decode cX10_addDoor 52 = .ok (.iconst 0, 1) := by decide +kernel
theorem dX10_addDoor_53 : decode cX10_addDoor 53 = .ok (.ireturn, 1) := by decide +kernel
theorem dX10_addDoor_16 : decode cX10_addDoor 16 = .ok (.iconst 1, 1) := by decide +kernel
theorem dX10_addDoor_17 : decode cX10_addDoor 17 = .ok (.goto 4, 3) := by decide +kernel
def f_X10_addDoor (d : MoV) (ph : Int32) (fh : Int32) (lh : Int32) (k : Int32) : Int32 × MoV := (let u_3 : MoV := (f_X10_keeps d); (if (f_X10_isRule ph fh lh k) = (0 : Int32) then (let u_23 : MoV := (f_X10_isThrown u_3 (1 : Int32) (1 : Int32)); ((0 : Int32), u_23)) else (let u_7 : MoV := (f_X10_isThrown u_3 (0 : Int32) (1 : Int32)); (if (u_7.1 (2 : Int32).toNatClampNeg) = (8 : Int32) then (let u_20 : MoV := (f_X10_isThrown u_7 (1 : Int32) (2 : Int32)); ((0 : Int32), u_20)) else (let u_11 : MoV := (f_X10_isThrown u_7 (0 : Int32) (2 : Int32)); (let u_15 : MoV := (f_X10_rules u_11 (u_11.1 (2 : Int32).toNatClampNeg) ph fh lh k); (let u_18 : Int32 × MoV := (f_X10_ends (mo0 u_15 (upd u_15.1 (2 : Int32).toNatClampNeg ((u_15.1 (2 : Int32).toNatClampNeg) + (1 : Int32)))) (((upd u_15.1 (2 : Int32).toNatClampNeg ((u_15.1 (2 : Int32).toNatClampNeg) + (1 : Int32))) (2 : Int32).toNatClampNeg) - (1 : Int32))); (u_18.1, u_18.2))))))))
def ok_X10_addDoor (d : MoV) (ph : Int32) (fh : Int32) (lh : Int32) (k : Int32) : Prop := (ok_X10_keeps d ∧ (let u_3 : MoV := (f_X10_keeps d); (if (f_X10_isRule ph fh lh k) = (0 : Int32) then True else (let u_7 : MoV := (f_X10_isThrown u_3 (0 : Int32) (1 : Int32)); (if (u_7.1 (2 : Int32).toNatClampNeg) = (8 : Int32) then True else (let u_11 : MoV := (f_X10_isThrown u_7 (0 : Int32) (2 : Int32)); (ok_X10_rules u_11 (u_11.1 (2 : Int32).toNatClampNeg) ph fh lh k ∧ (let u_15 : MoV := (f_X10_rules u_11 (u_11.1 (2 : Int32).toNatClampNeg) ph fh lh k); (ok_X10_ends (mo0 u_15 (upd u_15.1 (2 : Int32).toNatClampNeg ((u_15.1 (2 : Int32).toNatClampNeg) + (1 : Int32)))) (((upd u_15.1 (2 : Int32).toNatClampNeg ((u_15.1 (2 : Int32).toNatClampNeg) + (1 : Int32))) (2 : Int32).toNatClampNeg) - (1 : Int32)) ∧ True)))))))))
set_option maxHeartbeats 4000000 in
set_option maxRecDepth 100000 in
theorem c_X10_addDoor (l : Launch) (G : GG) (dh0 : Nat) (dh1 : Nat) (dh2 : Nat) (dh3 : Nat) (dh4 : Nat) (dh5 : Nat) (dh6 : Nat) (dh7 : Nat) (sz : Nat) (d : MoV) (ph : Int32) (fh : Int32) (lh : Int32) (k : Int32) (hok : ok_X10_addDoor d ph fh lh k) : wMet l yX10_addDoor cX10_addDoor 5 (some .int) 4 0 0 G (fl [wMo G dh0 dh1 dh2 dh3 dh4 dh5 dh6 dh7 d]) [.ref dh0, .int ph, .int fh, .int lh, .int k] sz (fun u : Int32 × MoV => some (.int u.1)) (fun u : Int32 × MoV => u = f_X10_addDoor d ph fh lh k) (fun u : Int32 × MoV => fl [wMo G dh0 dh1 dh2 dh3 dh4 dh5 dh6 dh7 u.2]) := by
  refine w_start (by decide +kernel) (Nat.le_of_ble_eq_true rfl) ?_
  intro p e s m below meth c A hx hb hr hml hts hown hlk hin hP hD hA hK hST ls hl
  have hS : va_S A s.heap s.heap [] := va_S.rf
  have hown : s.vm.findClass RX10 = some m.cls := hown
  have hl : lv_has ls 5 [(0, .ref dh0), (1, .int ph), (2, .int fh), (3, .int lh), (4, .int k)] := hl
  have hF : f_X10_addDoor d ph fh lh k = (let u_3 : MoV := (f_X10_keeps d); (if (f_X10_isRule ph fh lh k) = (0 : Int32) then (let u_23 : MoV := (f_X10_isThrown u_3 (1 : Int32) (1 : Int32)); ((0 : Int32), u_23)) else (let u_7 : MoV := (f_X10_isThrown u_3 (0 : Int32) (1 : Int32)); (if (u_7.1 (2 : Int32).toNatClampNeg) = (8 : Int32) then (let u_20 : MoV := (f_X10_isThrown u_7 (1 : Int32) (2 : Int32)); ((0 : Int32), u_20)) else (let u_11 : MoV := (f_X10_isThrown u_7 (0 : Int32) (2 : Int32)); (let u_15 : MoV := (f_X10_rules u_11 (u_11.1 (2 : Int32).toNatClampNeg) ph fh lh k); (let u_18 : Int32 × MoV := (f_X10_ends (mo0 u_15 (upd u_15.1 (2 : Int32).toNatClampNeg ((u_15.1 (2 : Int32).toNatClampNeg) + (1 : Int32)))) (((upd u_15.1 (2 : Int32).toNatClampNeg ((u_15.1 (2 : Int32).toNatClampNeg) + (1 : Int32))) (2 : Int32).toNatClampNeg) - (1 : Int32))); (u_18.1, u_18.2)))))))) := rfl
  have hok : (ok_X10_keeps d ∧ (let u_3 : MoV := (f_X10_keeps d); (if (f_X10_isRule ph fh lh k) = (0 : Int32) then True else (let u_7 : MoV := (f_X10_isThrown u_3 (0 : Int32) (1 : Int32)); (if (u_7.1 (2 : Int32).toNatClampNeg) = (8 : Int32) then True else (let u_11 : MoV := (f_X10_isThrown u_7 (0 : Int32) (2 : Int32)); (ok_X10_rules u_11 (u_11.1 (2 : Int32).toNatClampNeg) ph fh lh k ∧ (let u_15 : MoV := (f_X10_rules u_11 (u_11.1 (2 : Int32).toNatClampNeg) ph fh lh k); (ok_X10_ends (mo0 u_15 (upd u_15.1 (2 : Int32).toNatClampNeg ((u_15.1 (2 : Int32).toNatClampNeg) + (1 : Int32)))) (((upd u_15.1 (2 : Int32).toNatClampNeg ((u_15.1 (2 : Int32).toNatClampNeg) + (1 : Int32))) (2 : Int32).toNatClampNeg) - (1 : Int32)) ∧ True))))))))) := hok
  refine lv_aload_n hx hb dX10_addDoor_0 rfl (lv_at hl 0 rfl) ?_
  have k_1 := hok.1
  have hok := hok.2
  refine w_V (own := RX10) (cs := [wMo G dh0 dh1 dh2 dh3 dh4 dh5 dh6 dh7 d]) (rs := []) (As := []) (rest := []) (c_X10_keeps l G dh0 dh1 dh2 dh3 dh4 dh5 dh6 dh7 s.heap.size d k_1) ⟨hx, hb, hml, hown, hts⟩ g_X10_56 hdv_X10_keeps hK hST hS hP hD hA [0] [] rfl rfl rfl (k0 := 0) rfl rfl rfl ⟨Nat.le_of_ble_eq_true rfl, Nat.le_of_ble_eq_true rfl⟩ ⟨Nat.le_of_ble_eq_true rfl, Nat.le_of_ble_eq_true rfl⟩ rfl hl.1 rfl (Nat.le_of_ble_eq_true rfl) dX10_addDoor_1 (fun u_3 H locs huu hP hD hS => ?_)
  have eu_3 := huu
  have hP : va_P G.1 vwCl (fl [wMo G dh0 dh1 dh2 dh3 dh4 dh5 dh6 dh7 u_3]) H := hP
  have hD : va_D A (fl [wMo G dh0 dh1 dh2 dh3 dh4 dh5 dh6 dh7 u_3]) := hD
  refine W.eq (g2 := F0 m 4 ls []) rfl ?_
  have hF : f_X10_addDoor d ph fh lh k = (if (f_X10_isRule ph fh lh k) = (0 : Int32) then (let u_23 : MoV := (f_X10_isThrown u_3 (1 : Int32) (1 : Int32)); ((0 : Int32), u_23)) else (let u_7 : MoV := (f_X10_isThrown u_3 (0 : Int32) (1 : Int32)); (if (u_7.1 (2 : Int32).toNatClampNeg) = (8 : Int32) then (let u_20 : MoV := (f_X10_isThrown u_7 (1 : Int32) (2 : Int32)); ((0 : Int32), u_20)) else (let u_11 : MoV := (f_X10_isThrown u_7 (0 : Int32) (2 : Int32)); (let u_15 : MoV := (f_X10_rules u_11 (u_11.1 (2 : Int32).toNatClampNeg) ph fh lh k); (let u_18 : Int32 × MoV := (f_X10_ends (mo0 u_15 (upd u_15.1 (2 : Int32).toNatClampNeg ((u_15.1 (2 : Int32).toNatClampNeg) + (1 : Int32)))) (((upd u_15.1 (2 : Int32).toNatClampNeg ((u_15.1 (2 : Int32).toNatClampNeg) + (1 : Int32))) (2 : Int32).toNatClampNeg) - (1 : Int32))); (u_18.1, u_18.2))))))) := by subst eu_3; exact hF
  have hok : (if (f_X10_isRule ph fh lh k) = (0 : Int32) then True else (let u_7 : MoV := (f_X10_isThrown u_3 (0 : Int32) (1 : Int32)); (if (u_7.1 (2 : Int32).toNatClampNeg) = (8 : Int32) then True else (let u_11 : MoV := (f_X10_isThrown u_7 (0 : Int32) (2 : Int32)); (ok_X10_rules u_11 (u_11.1 (2 : Int32).toNatClampNeg) ph fh lh k ∧ (let u_15 : MoV := (f_X10_rules u_11 (u_11.1 (2 : Int32).toNatClampNeg) ph fh lh k); (ok_X10_ends (mo0 u_15 (upd u_15.1 (2 : Int32).toNatClampNeg ((u_15.1 (2 : Int32).toNatClampNeg) + (1 : Int32)))) (((upd u_15.1 (2 : Int32).toNatClampNeg ((u_15.1 (2 : Int32).toNatClampNeg) + (1 : Int32))) (2 : Int32).toNatClampNeg) - (1 : Int32)) ∧ True))))))) := by subst eu_3; exact hok
  refine lv_aload_n hx hb dX10_addDoor_4 rfl (lv_at hl 0 rfl) ?_
  refine lv_iload_n hx hb dX10_addDoor_5 rfl (lv_at hl 1 rfl) ?_
  refine lv_iload_n hx hb dX10_addDoor_6 rfl (lv_at hl 2 rfl) ?_
  refine lv_iload_n hx hb dX10_addDoor_7 rfl (lv_at hl 3 rfl) ?_
  refine lv_iload hx hb dX10_addDoor_8 (lv_at hl 4 rfl) ?_
  refine r_S (own := RX10) (v := (some (.int (f_X10_isRule ph fh lh k)))) (st1 := [.int (f_X10_isRule ph fh lh k), .ref dh0]) (As := [.int ph, .int fh, .int lh, .int k]) (rest := [.ref dh0]) (c_X10_isRule l G ph fh lh k) ⟨hx, hb, hml, hown, hts⟩ g_X10_59 hds_X10_isRule hK hST hS hP [] rfl ⟨Nat.le_of_ble_eq_true rfl, Nat.le_of_ble_eq_true rfl⟩ ⟨Nat.le_of_ble_eq_true rfl, Nat.le_of_ble_eq_true rfl⟩ rfl hl.1 rfl (Nat.le_of_ble_eq_true rfl) dX10_addDoor_10 rfl (fun b_4 => ?_)
  refine lv_if_ne (tgt := 20) hx hb dX10_addDoor_13 (by decide) (fun c_5 => ?_) (fun c_5 => ?_)
  · have hF := hF.trans (if_neg c_5)
    have hok := Eq.mp (if_neg c_5) hok
    refine lv_iconst (v := (0 : Int32)) hx hb dX10_addDoor_20 (by decide) ?_
    refine lv_iconst (v := (1 : Int32)) hx hb dX10_addDoor_21 (by decide) ?_
    refine w_V (own := RX10) (cs := [wMo G dh0 dh1 dh2 dh3 dh4 dh5 dh6 dh7 u_3]) (rs := []) (As := [.int (0 : Int32), .int (1 : Int32)]) (rest := []) (c_X10_isThrown l G dh0 dh1 dh2 dh3 dh4 dh5 dh6 dh7 H.size u_3 (0 : Int32) (1 : Int32) (rfl)) ⟨hx, hb, hml, hown, hts⟩ g_X10_63 hdv_X10_isThrown hK hST hS hP hD hA [0] [] rfl rfl rfl (k0 := 0) rfl rfl rfl ⟨Nat.le_of_ble_eq_true rfl, Nat.le_of_ble_eq_true rfl⟩ ⟨Nat.le_of_ble_eq_true rfl, Nat.le_of_ble_eq_true rfl⟩ rfl hl.1 rfl (Nat.le_of_ble_eq_true rfl) dX10_addDoor_22 (fun u_7 H locs huu hP hD hS => ?_)
    have eu_7 := huu
    have hP : va_P G.1 vwCl (fl [wMo G dh0 dh1 dh2 dh3 dh4 dh5 dh6 dh7 u_7]) H := hP
    have hD : va_D A (fl [wMo G dh0 dh1 dh2 dh3 dh4 dh5 dh6 dh7 u_7]) := hD
    refine W.eq (g2 := F0 m 25 ls [.int (0 : Int32)]) rfl ?_
    have hF : f_X10_addDoor d ph fh lh k = (if (u_7.1 (2 : Int32).toNatClampNeg) = (8 : Int32) then (let u_20 : MoV := (f_X10_isThrown u_7 (1 : Int32) (2 : Int32)); ((0 : Int32), u_20)) else (let u_11 : MoV := (f_X10_isThrown u_7 (0 : Int32) (2 : Int32)); (let u_15 : MoV := (f_X10_rules u_11 (u_11.1 (2 : Int32).toNatClampNeg) ph fh lh k); (let u_18 : Int32 × MoV := (f_X10_ends (mo0 u_15 (upd u_15.1 (2 : Int32).toNatClampNeg ((u_15.1 (2 : Int32).toNatClampNeg) + (1 : Int32)))) (((upd u_15.1 (2 : Int32).toNatClampNeg ((u_15.1 (2 : Int32).toNatClampNeg) + (1 : Int32))) (2 : Int32).toNatClampNeg) - (1 : Int32))); (u_18.1, u_18.2))))) := by subst eu_7; exact hF
    have hok : (if (u_7.1 (2 : Int32).toNatClampNeg) = (8 : Int32) then True else (let u_11 : MoV := (f_X10_isThrown u_7 (0 : Int32) (2 : Int32)); (ok_X10_rules u_11 (u_11.1 (2 : Int32).toNatClampNeg) ph fh lh k ∧ (let u_15 : MoV := (f_X10_rules u_11 (u_11.1 (2 : Int32).toNatClampNeg) ph fh lh k); (ok_X10_ends (mo0 u_15 (upd u_15.1 (2 : Int32).toNatClampNeg ((u_15.1 (2 : Int32).toNatClampNeg) + (1 : Int32)))) (((upd u_15.1 (2 : Int32).toNatClampNeg ((u_15.1 (2 : Int32).toNatClampNeg) + (1 : Int32))) (2 : Int32).toNatClampNeg) - (1 : Int32)) ∧ True))))) := by subst eu_7; exact hok
    refine lv_if_ne (tgt := 52) hx hb dX10_addDoor_25 (by decide) (fun c_8 => ?_) (fun c_8 => ?_)
    · exact absurd c_8 (by decide)
    · refine lv_aload_n hx hb dX10_addDoor_28 rfl (lv_at hl 0 rfl) ?_
      refine lv_aload_n hx hb dX10_addDoor_29 rfl (lv_at hl 0 rfl) ?_
      refine va_get (D := G.1) (ci := 12) (v := .ref dh1) (C := RX10) (T := TX10) (N := 17) hx hb hts uws_X10 hown hK hP 0 rfl rfl 0 (by decide) (hts _ u_1680) (fun _ h9 => h9) rfl dX10_addDoor_30 ?_
      refine lv_iconst (v := (2 : Int32)) hx hb dX10_addDoor_33 (by decide) ?_
      refine va_iald hx hb hK hP 1 0 rfl rfl (vp_in_nI (n := 2) (by decide) (by decide)) dX10_addDoor_34 ?_
      refine lv_bipush (v := (8 : Int32)) hx hb dX10_addDoor_35 (by decide) ?_
      refine lv_icmp_ne (tgt := 44) hx hb dX10_addDoor_37 (by decide) (fun c_9 => ?_) (fun c_9 => ?_)
      · have hF := hF.trans (if_neg c_9)
        have hok := Eq.mp (if_neg c_9) hok
        refine lv_iconst (v := (0 : Int32)) hx hb dX10_addDoor_44 (by decide) ?_
        refine lv_iconst (v := (2 : Int32)) hx hb dX10_addDoor_45 (by decide) ?_
        refine w_V (own := RX10) (cs := [wMo G dh0 dh1 dh2 dh3 dh4 dh5 dh6 dh7 u_7]) (rs := []) (As := [.int (0 : Int32), .int (2 : Int32)]) (rest := []) (c_X10_isThrown l G dh0 dh1 dh2 dh3 dh4 dh5 dh6 dh7 H.size u_7 (0 : Int32) (2 : Int32) (rfl)) ⟨hx, hb, hml, hown, hts⟩ g_X10_63 hdv_X10_isThrown hK hST hS hP hD hA [0] [] rfl rfl rfl (k0 := 0) rfl rfl rfl ⟨Nat.le_of_ble_eq_true rfl, Nat.le_of_ble_eq_true rfl⟩ ⟨Nat.le_of_ble_eq_true rfl, Nat.le_of_ble_eq_true rfl⟩ rfl hl.1 rfl (Nat.le_of_ble_eq_true rfl) dX10_addDoor_46 (fun u_11 H locs huu hP hD hS => ?_)
        have eu_11 := huu
        have hP : va_P G.1 vwCl (fl [wMo G dh0 dh1 dh2 dh3 dh4 dh5 dh6 dh7 u_11]) H := hP
        have hD : va_D A (fl [wMo G dh0 dh1 dh2 dh3 dh4 dh5 dh6 dh7 u_11]) := hD
        refine W.eq (g2 := F0 m 49 ls [.int (0 : Int32)]) rfl ?_
        have hF : f_X10_addDoor d ph fh lh k = (let u_15 : MoV := (f_X10_rules u_11 (u_11.1 (2 : Int32).toNatClampNeg) ph fh lh k); (let u_18 : Int32 × MoV := (f_X10_ends (mo0 u_15 (upd u_15.1 (2 : Int32).toNatClampNeg ((u_15.1 (2 : Int32).toNatClampNeg) + (1 : Int32)))) (((upd u_15.1 (2 : Int32).toNatClampNeg ((u_15.1 (2 : Int32).toNatClampNeg) + (1 : Int32))) (2 : Int32).toNatClampNeg) - (1 : Int32))); (u_18.1, u_18.2))) := by subst eu_11; exact hF
        have hok : (ok_X10_rules u_11 (u_11.1 (2 : Int32).toNatClampNeg) ph fh lh k ∧ (let u_15 : MoV := (f_X10_rules u_11 (u_11.1 (2 : Int32).toNatClampNeg) ph fh lh k); (ok_X10_ends (mo0 u_15 (upd u_15.1 (2 : Int32).toNatClampNeg ((u_15.1 (2 : Int32).toNatClampNeg) + (1 : Int32)))) (((upd u_15.1 (2 : Int32).toNatClampNeg ((u_15.1 (2 : Int32).toNatClampNeg) + (1 : Int32))) (2 : Int32).toNatClampNeg) - (1 : Int32)) ∧ True))) := by subst eu_11; exact hok
        refine lv_if_eq (tgt := 54) hx hb dX10_addDoor_49 (by decide) (fun c_12 => ?_) (fun c_12 => ?_)
        · refine lv_aload_n hx hb dX10_addDoor_54 rfl (lv_at hl 0 rfl) ?_
          refine lv_aload_n hx hb dX10_addDoor_55 rfl (lv_at hl 0 rfl) ?_
          refine va_get (D := G.1) (ci := 12) (v := .ref dh1) (C := RX10) (T := TX10) (N := 17) hx hb hts uws_X10 hown hK hP 0 rfl rfl 0 (by decide) (hts _ u_1680) (fun _ h9 => h9) rfl dX10_addDoor_56 ?_
          refine lv_iconst (v := (2 : Int32)) hx hb dX10_addDoor_59 (by decide) ?_
          refine va_iald hx hb hK hP 1 0 rfl rfl (vp_in_nI (n := 2) (by decide) (by decide)) dX10_addDoor_60 ?_
          refine lv_iload_n hx hb dX10_addDoor_61 rfl (lv_at hl 1 rfl) ?_
          refine lv_iload_n hx hb dX10_addDoor_62 rfl (lv_at hl 2 rfl) ?_
          refine lv_iload_n hx hb dX10_addDoor_63 rfl (lv_at hl 3 rfl) ?_
          refine lv_iload hx hb dX10_addDoor_64 (lv_at hl 4 rfl) ?_
          have k_13 := hok.1
          have hok := hok.2
          refine w_V (own := RX10) (cs := [wMo G dh0 dh1 dh2 dh3 dh4 dh5 dh6 dh7 u_11]) (rs := []) (As := [.int (u_11.1 (2 : Int32).toNatClampNeg), .int ph, .int fh, .int lh, .int k]) (rest := []) (c_X10_rules l G dh0 dh1 dh2 dh3 dh4 dh5 dh6 dh7 H.size u_11 (u_11.1 (2 : Int32).toNatClampNeg) ph fh lh k k_13) ⟨hx, hb, hml, hown, hts⟩ g_X10_67 hdv_X10_rules hK hST hS hP hD hA [0] [] rfl rfl rfl (k0 := 0) rfl rfl rfl ⟨Nat.le_of_ble_eq_true rfl, Nat.le_of_ble_eq_true rfl⟩ ⟨Nat.le_of_ble_eq_true rfl, Nat.le_of_ble_eq_true rfl⟩ rfl hl.1 rfl (Nat.le_of_ble_eq_true rfl) dX10_addDoor_66 (fun u_15 H locs huu hP hD hS => ?_)
          have eu_15 := huu
          have hP : va_P G.1 vwCl (fl [wMo G dh0 dh1 dh2 dh3 dh4 dh5 dh6 dh7 u_15]) H := hP
          have hD : va_D A (fl [wMo G dh0 dh1 dh2 dh3 dh4 dh5 dh6 dh7 u_15]) := hD
          refine W.eq (g2 := F0 m 69 ls []) rfl ?_
          have hF : f_X10_addDoor d ph fh lh k = (let u_18 : Int32 × MoV := (f_X10_ends (mo0 u_15 (upd u_15.1 (2 : Int32).toNatClampNeg ((u_15.1 (2 : Int32).toNatClampNeg) + (1 : Int32)))) (((upd u_15.1 (2 : Int32).toNatClampNeg ((u_15.1 (2 : Int32).toNatClampNeg) + (1 : Int32))) (2 : Int32).toNatClampNeg) - (1 : Int32))); (u_18.1, u_18.2)) := by subst eu_15; exact hF
          have hok : (ok_X10_ends (mo0 u_15 (upd u_15.1 (2 : Int32).toNatClampNeg ((u_15.1 (2 : Int32).toNatClampNeg) + (1 : Int32)))) (((upd u_15.1 (2 : Int32).toNatClampNeg ((u_15.1 (2 : Int32).toNatClampNeg) + (1 : Int32))) (2 : Int32).toNatClampNeg) - (1 : Int32)) ∧ True) := by subst eu_15; exact hok
          refine lv_aload_n hx hb dX10_addDoor_69 rfl (lv_at hl 0 rfl) ?_
          refine va_get (D := G.1) (ci := 12) (v := .ref dh1) (C := RX10) (T := TX10) (N := 17) hx hb hts uws_X10 hown hK hP 0 rfl rfl 0 (by decide) (hts _ u_1680) (fun _ h9 => h9) rfl dX10_addDoor_70 ?_
          refine lv_iconst (v := (2 : Int32)) hx hb dX10_addDoor_73 (by decide) ?_
          refine lv_dup2_11 hx hb dX10_addDoor_74 rfl rfl ?_
          refine va_iald hx hb hK hP 1 0 rfl rfl (vp_in_nI (n := 2) (by decide) (by decide)) dX10_addDoor_75 ?_
          refine lv_iconst (v := (1 : Int32)) hx hb dX10_addDoor_76 (by decide) ?_
          refine lv_iadd hx hb dX10_addDoor_77 ?_
          refine va_iast hx hb hK hP hD hS 1 0 rfl rfl (vp_in_nI (n := 2) (by decide) (by decide)) dX10_addDoor_78 (fun H locs hP hD hS => ?_)
          have hP : va_P G.1 vwCl (fl [wMo G dh0 dh1 dh2 dh3 dh4 dh5 dh6 dh7 (mo0 u_15 (upd u_15.1 (2 : Int32).toNatClampNeg ((u_15.1 (2 : Int32).toNatClampNeg) + (1 : Int32))))]) H := hP
          have hD : va_D A (fl [wMo G dh0 dh1 dh2 dh3 dh4 dh5 dh6 dh7 (mo0 u_15 (upd u_15.1 (2 : Int32).toNatClampNeg ((u_15.1 (2 : Int32).toNatClampNeg) + (1 : Int32))))]) := hD
          refine lv_aload_n hx hb dX10_addDoor_79 rfl (lv_at hl 0 rfl) ?_
          refine lv_aload_n hx hb dX10_addDoor_80 rfl (lv_at hl 0 rfl) ?_
          refine va_get (D := G.1) (ci := 12) (v := .ref dh1) (C := RX10) (T := TX10) (N := 17) hx hb hts uws_X10 hown hK hP 0 rfl rfl 0 (by decide) (hts _ u_1680) (fun _ h9 => h9) rfl dX10_addDoor_81 ?_
          refine lv_iconst (v := (2 : Int32)) hx hb dX10_addDoor_84 (by decide) ?_
          refine va_iald hx hb hK hP 1 0 rfl rfl (vp_in_nI (n := 2) (by decide) (by decide)) dX10_addDoor_85 ?_
          refine lv_iconst (v := (1 : Int32)) hx hb dX10_addDoor_86 (by decide) ?_
          refine lv_isub hx hb dX10_addDoor_87 ?_
          have k_16 := hok.1
          have hok := hok.2
          refine w_V (own := RX10) (cs := [wMo G dh0 dh1 dh2 dh3 dh4 dh5 dh6 dh7 (mo0 u_15 (upd u_15.1 (2 : Int32).toNatClampNeg ((u_15.1 (2 : Int32).toNatClampNeg) + (1 : Int32))))]) (rs := []) (As := [.int (((upd u_15.1 (2 : Int32).toNatClampNeg ((u_15.1 (2 : Int32).toNatClampNeg) + (1 : Int32))) (2 : Int32).toNatClampNeg) - (1 : Int32))]) (rest := []) (c_X10_ends l G dh0 dh1 dh2 dh3 dh4 dh5 dh6 dh7 H.size (mo0 u_15 (upd u_15.1 (2 : Int32).toNatClampNeg ((u_15.1 (2 : Int32).toNatClampNeg) + (1 : Int32)))) (((upd u_15.1 (2 : Int32).toNatClampNeg ((u_15.1 (2 : Int32).toNatClampNeg) + (1 : Int32))) (2 : Int32).toNatClampNeg) - (1 : Int32)) k_16) ⟨hx, hb, hml, hown, hts⟩ g_X10_71 hdv_X10_ends hK hST hS hP hD hA [0] [] rfl rfl rfl (k0 := 0) rfl rfl rfl ⟨Nat.le_of_ble_eq_true rfl, Nat.le_of_ble_eq_true rfl⟩ ⟨Nat.le_of_ble_eq_true rfl, Nat.le_of_ble_eq_true rfl⟩ rfl hl.1 rfl (Nat.le_of_ble_eq_true rfl) dX10_addDoor_88 (fun u_18 H locs huu hP hD hS => ?_)
          have eu_18 := huu
          have hP : va_P G.1 vwCl (fl [wMo G dh0 dh1 dh2 dh3 dh4 dh5 dh6 dh7 u_18.2]) H := hP
          have hD : va_D A (fl [wMo G dh0 dh1 dh2 dh3 dh4 dh5 dh6 dh7 u_18.2]) := hD
          refine W.eq (g2 := F0 m 91 ls [.int u_18.1]) rfl ?_
          have hF : f_X10_addDoor d ph fh lh k = (u_18.1, u_18.2) := by subst eu_18; exact hF
          exact w_ret (u := (u_18.1, u_18.2)) hx hb hr hlk rfl hS rfl hF.symm hP hD (Nat.le_of_ble_eq_true rfl) (Nat.le_of_ble_eq_true rfl) dX10_addDoor_91
        · exact absurd c_12 (by decide)
      · have hF := hF.trans (if_pos c_9)
        have hok := Eq.mp (if_pos c_9) hok
        refine lv_iconst (v := (1 : Int32)) hx hb dX10_addDoor_40 (by decide) ?_
        refine lv_goto (tgt := 45) hx hb dX10_addDoor_41 (by decide) ?_
        refine lv_iconst (v := (2 : Int32)) hx hb dX10_addDoor_45 (by decide) ?_
        refine w_V (own := RX10) (cs := [wMo G dh0 dh1 dh2 dh3 dh4 dh5 dh6 dh7 u_7]) (rs := []) (As := [.int (1 : Int32), .int (2 : Int32)]) (rest := []) (c_X10_isThrown l G dh0 dh1 dh2 dh3 dh4 dh5 dh6 dh7 H.size u_7 (1 : Int32) (2 : Int32) (rfl)) ⟨hx, hb, hml, hown, hts⟩ g_X10_63 hdv_X10_isThrown hK hST hS hP hD hA [0] [] rfl rfl rfl (k0 := 0) rfl rfl rfl ⟨Nat.le_of_ble_eq_true rfl, Nat.le_of_ble_eq_true rfl⟩ ⟨Nat.le_of_ble_eq_true rfl, Nat.le_of_ble_eq_true rfl⟩ rfl hl.1 rfl (Nat.le_of_ble_eq_true rfl) dX10_addDoor_46 (fun u_20 H locs huu hP hD hS => ?_)
        have eu_20 := huu
        have hP : va_P G.1 vwCl (fl [wMo G dh0 dh1 dh2 dh3 dh4 dh5 dh6 dh7 u_20]) H := hP
        have hD : va_D A (fl [wMo G dh0 dh1 dh2 dh3 dh4 dh5 dh6 dh7 u_20]) := hD
        refine W.eq (g2 := F0 m 49 ls [.int (1 : Int32)]) rfl ?_
        have hF : f_X10_addDoor d ph fh lh k = ((0 : Int32), u_20) := by subst eu_20; exact hF
        refine lv_if_eq (tgt := 54) hx hb dX10_addDoor_49 (by decide) (fun c_21 => ?_) (fun c_21 => ?_)
        · exact absurd c_21 (by decide)
        · refine lv_iconst (v := (0 : Int32)) hx hb dX10_addDoor_52 (by decide) ?_
          exact w_ret (u := ((0 : Int32), u_20)) hx hb hr hlk rfl hS rfl hF.symm hP hD (Nat.le_of_ble_eq_true rfl) (Nat.le_of_ble_eq_true rfl) dX10_addDoor_53
  · have hF := hF.trans (if_pos c_5)
    have hok := Eq.mp (if_pos c_5) hok
    refine lv_iconst (v := (1 : Int32)) hx hb dX10_addDoor_16 (by decide) ?_
    refine lv_goto (tgt := 21) hx hb dX10_addDoor_17 (by decide) ?_
    refine lv_iconst (v := (1 : Int32)) hx hb dX10_addDoor_21 (by decide) ?_
    refine w_V (own := RX10) (cs := [wMo G dh0 dh1 dh2 dh3 dh4 dh5 dh6 dh7 u_3]) (rs := []) (As := [.int (1 : Int32), .int (1 : Int32)]) (rest := []) (c_X10_isThrown l G dh0 dh1 dh2 dh3 dh4 dh5 dh6 dh7 H.size u_3 (1 : Int32) (1 : Int32) (rfl)) ⟨hx, hb, hml, hown, hts⟩ g_X10_63 hdv_X10_isThrown hK hST hS hP hD hA [0] [] rfl rfl rfl (k0 := 0) rfl rfl rfl ⟨Nat.le_of_ble_eq_true rfl, Nat.le_of_ble_eq_true rfl⟩ ⟨Nat.le_of_ble_eq_true rfl, Nat.le_of_ble_eq_true rfl⟩ rfl hl.1 rfl (Nat.le_of_ble_eq_true rfl) dX10_addDoor_22 (fun u_23 H locs huu hP hD hS => ?_)
    have eu_23 := huu
    have hP : va_P G.1 vwCl (fl [wMo G dh0 dh1 dh2 dh3 dh4 dh5 dh6 dh7 u_23]) H := hP
    have hD : va_D A (fl [wMo G dh0 dh1 dh2 dh3 dh4 dh5 dh6 dh7 u_23]) := hD
    refine W.eq (g2 := F0 m 25 ls [.int (1 : Int32)]) rfl ?_
    have hF : f_X10_addDoor d ph fh lh k = ((0 : Int32), u_23) := by subst eu_23; exact hF
    refine lv_if_ne (tgt := 52) hx hb dX10_addDoor_25 (by decide) (fun c_24 => ?_) (fun c_24 => ?_)
    · refine lv_iconst (v := (0 : Int32)) hx hb dX10_addDoor_52 (by decide) ?_
      exact w_ret (u := ((0 : Int32), u_23)) hx hb hr hlk rfl hS rfl hF.symm hP hD (Nat.le_of_ble_eq_true rfl) (Nat.le_of_ble_eq_true rfl) dX10_addDoor_53
    · exact absurd c_24 (by decide)
theorem dX10_setRule_0 : decode cX10_setRule 0 = .ok (.aload_n 0, 1) := by decide +kernel
theorem dX10_setRule_1 : decode cX10_setRule 1 = .ok (.invokevirtual 56, 3) := by decide +kernel
theorem dX10_setRule_4 : decode cX10_setRule 4 = .ok (.aload_n 0, 1) := by decide +kernel
theorem dX10_setRule_5 : decode cX10_setRule 5 = .ok (.aload_n 0, 1) := by decide +kernel
theorem dX10_setRule_6 : decode cX10_setRule 6 = .ok (.iload_n 1, 1) := by decide +kernel
theorem dX10_setRule_7 : decode cX10_setRule 7 = .ok (.invokevirtual 75, 3) := by decide +kernel
theorem u_1772 : Cond.methodLink RX10 75 yX10_isDoor ∈ UW := uw 1772 (by decide +kernel) rfl
theorem u_1774 : Cond.instanceMethod yX10_isDoor ∈ UW := uw 1774 (by decide +kernel) rfl
theorem u_24 : Cond.selects RX10 yX10_isDoor yX10_isDoor ∈ UW := uw 24 (by decide +kernel) rfl
theorem u_1775 : Cond.code yX10_isDoor cX10_isDoor 2 (some .boolean) ∈ UW := uw 1775 (by decide +kernel) rfl
theorem g_X10_75 : GoodIn UW (wsV RX10 75 RX10 yX10_isDoor (wsU yX10_isDoor cX10_isDoor 2 (some .boolean))) := gV u_1772 u_1774 u_24 u_77 u_1775
theorem hdv_X10_isDoor : yX10_isDoor.cls = RX10 ∧ yX10_isDoor.cls ≠ "java/lang/invoke/MethodHandle" ∧ yX10_isDoor.cls ≠ "java/lang/invoke/VarHandle" ∧ (parseMethodDescriptor yX10_isDoor.desc).map (fun d => d.parameters.length) = some 1 := by decide +kernel
theorem dX10_setRule_10 : decode cX10_setRule 10 = .ok (.ifCond .ne 7, 3) := by decide +kernel
theorem dX10_setRule_17 : decode cX10_setRule 17 = .ok (.iconst 0, 1) := by decide +kernel
theorem dX10_setRule_18 : decode cX10_setRule 18 = .ok (.iconst 1, 1) := by decide +kernel
theorem dX10_setRule_19 : decode cX10_setRule 19 = .ok (.invokevirtual 63, 3) := by decide +kernel
theorem dX10_setRule_22 : decode cX10_setRule 22 = .ok (.ifCond .ne 28, 3) := by decide +kernel
theorem dX10_setRule_25 : decode cX10_setRule 25 = .ok (.aload_n 0, 1) := by decide +kernel
theorem dX10_setRule_26 : decode cX10_setRule 26 = .ok (.iload_n 2, 1) := by decide +kernel
theorem dX10_setRule_27 : decode cX10_setRule 27 = .ok (.iload_n 3, 1) := by decide +kernel
theorem dX10_setRule_28 : decode cX10_setRule 28 = .ok (.iload 4, 2) := by decide +kernel
theorem dX10_setRule_30 : decode cX10_setRule 30 = .ok (.iload 5, 2) := by decide +kernel
theorem dX10_setRule_32 : decode cX10_setRule 32 = .ok (.invokestatic 59, 3) := by decide +kernel
theorem dX10_setRule_35 : decode cX10_setRule 35 = .ok (.ifCond .ne 7, 3) := by decide +kernel
theorem dX10_setRule_42 : decode cX10_setRule 42 = .ok (.iconst 0, 1) := by decide +kernel
theorem dX10_setRule_43 : decode cX10_setRule 43 = .ok (.iconst 2, 1) := by decide +kernel
theorem dX10_setRule_44 : decode cX10_setRule 44 = .ok (.invokevirtual 63, 3) := by decide +kernel
theorem dX10_setRule_47 : decode cX10_setRule 47 = .ok (.ifCond .eq 5, 3) := by decide +kernel
theorem dX10_setRule_52 : decode cX10_setRule 52 = .ok (.aload_n 0, 1) := by decide +kernel
theorem dX10_setRule_53 : decode cX10_setRule 53 = .ok (.iload_n 1, 1) := by decide +kernel
theorem dX10_setRule_54 : decode cX10_setRule 54 = .ok (.iconst 3, 1) := by decide +kernel
theorem dX10_setRule_55 : decode cX10_setRule 55 = .ok (.invokevirtual 78, 3) := by decide +kernel
theorem u_1776 : Cond.methodLink RX10 78 yX10_of ∈ UW := uw 1776 (by decide +kernel) rfl
theorem u_1778 : Cond.instanceMethod yX10_of ∈ UW := uw 1778 (by decide +kernel) rfl
theorem u_25 : Cond.selects RX10 yX10_of yX10_of ∈ UW := uw 25 (by decide +kernel) rfl
theorem u_1779 : Cond.code yX10_of cX10_of 3 (some .int) ∈ UW := uw 1779 (by decide +kernel) rfl
theorem g_X10_78 : GoodIn UW (wsV RX10 78 RX10 yX10_of (wsU yX10_of cX10_of 3 (some .int))) := gV u_1776 u_1778 u_25 u_77 u_1779
theorem hdv_X10_of : yX10_of.cls = RX10 ∧ yX10_of.cls ≠ "java/lang/invoke/MethodHandle" ∧ yX10_of.cls ≠ "java/lang/invoke/VarHandle" ∧ (parseMethodDescriptor yX10_of.desc).map (fun d => d.parameters.length) = some 2 := by decide +kernel
theorem dX10_setRule_58 : decode cX10_setRule 58 = .ok (.istore 6, 2) := by decide +kernel
theorem dX10_setRule_60 : decode cX10_setRule 60 = .ok (.aload_n 0, 1) := by decide +kernel
theorem dX10_setRule_61 : decode cX10_setRule 61 = .ok (.iload_n 1, 1) := by decide +kernel
theorem dX10_setRule_62 : decode cX10_setRule 62 = .ok (.iload_n 2, 1) := by decide +kernel
theorem dX10_setRule_63 : decode cX10_setRule 63 = .ok (.iload_n 3, 1) := by decide +kernel
theorem dX10_setRule_64 : decode cX10_setRule 64 = .ok (.iload 4, 2) := by decide +kernel
theorem dX10_setRule_66 : decode cX10_setRule 66 = .ok (.iload 5, 2) := by decide +kernel
theorem dX10_setRule_68 : decode cX10_setRule 68 = .ok (.invokevirtual 67, 3) := by decide +kernel
theorem dX10_setRule_71 : decode cX10_setRule 71 = .ok (.aload_n 0, 1) := by decide +kernel
theorem dX10_setRule_72 : decode cX10_setRule 72 = .ok (.iload 6, 2) := by decide +kernel
theorem dX10_setRule_74 : decode cX10_setRule 74 = .ok (.invokevirtual 71, 3) := by decide +kernel
theorem dX10_setRule_77 : decode cX10_setRule 77 = .ok (.ireturn, 1) := by decide +kernel
theorem dX10_setRule_38 : decode cX10_setRule 38 = .ok (.iconst 1, 1) := by decide +kernel
theorem dX10_setRule_39 : decode cX10_setRule 39 = .ok (.goto 4, 3) := by decide +kernel
theorem dX10_setRule_50 : decode cX10_setRule 50 = .ok (.iconst 0, 1) := by decide +kernel
theorem dX10_setRule_51 : decode cX10_setRule 51 = .ok (.ireturn, 1) := by decide +kernel
theorem dX10_setRule_13 : decode cX10_setRule 13 = .ok (.iconst 1, 1) := by decide +kernel
theorem dX10_setRule_14 : decode cX10_setRule 14 = .ok (.goto 4, 3) := by decide +kernel
def f_X10_setRule (d : MoV) (dr : Int32) (ph : Int32) (fh : Int32) (lh : Int32) (k : Int32) : Int32 × MoV := (let u_3 : MoV := (f_X10_keeps d); (if (f_X10_isDoor u_3 dr) = (0 : Int32) then (let u_27 : MoV := (f_X10_isThrown u_3 (1 : Int32) (1 : Int32)); ((0 : Int32), u_27)) else (let u_7 : MoV := (f_X10_isThrown u_3 (0 : Int32) (1 : Int32)); (if (f_X10_isRule ph fh lh k) = (0 : Int32) then (let u_24 : MoV := (f_X10_isThrown u_7 (1 : Int32) (2 : Int32)); ((0 : Int32), u_24)) else (let u_12 : MoV := (f_X10_isThrown u_7 (0 : Int32) (2 : Int32)); (let y_16 : Int32 := (f_X10_of u_12 dr (3 : Int32)); (let u_19 : MoV := (f_X10_rules u_12 dr ph fh lh k); (let u_22 : Int32 × MoV := (f_X10_ends u_19 y_16); (u_22.1, u_22.2)))))))))
def ok_X10_setRule (d : MoV) (dr : Int32) (ph : Int32) (fh : Int32) (lh : Int32) (k : Int32) : Prop := (ok_X10_keeps d ∧ (let u_3 : MoV := (f_X10_keeps d); (if (f_X10_isDoor u_3 dr) = (0 : Int32) then True else (let u_7 : MoV := (f_X10_isThrown u_3 (0 : Int32) (1 : Int32)); (if (f_X10_isRule ph fh lh k) = (0 : Int32) then True else (let u_12 : MoV := (f_X10_isThrown u_7 (0 : Int32) (2 : Int32)); (ok_X10_of u_12 dr (3 : Int32) ∧ (let y_16 : Int32 := (f_X10_of u_12 dr (3 : Int32)); (ok_X10_rules u_12 dr ph fh lh k ∧ (let u_19 : MoV := (f_X10_rules u_12 dr ph fh lh k); (ok_X10_ends u_19 y_16 ∧ True)))))))))))
set_option maxHeartbeats 4000000 in
set_option maxRecDepth 100000 in
theorem c_X10_setRule (l : Launch) (G : GG) (dh0 : Nat) (dh1 : Nat) (dh2 : Nat) (dh3 : Nat) (dh4 : Nat) (dh5 : Nat) (dh6 : Nat) (dh7 : Nat) (sz : Nat) (d : MoV) (dr : Int32) (ph : Int32) (fh : Int32) (lh : Int32) (k : Int32) (hok : ok_X10_setRule d dr ph fh lh k) : wMet l yX10_setRule cX10_setRule 7 (some .int) 4 0 0 G (fl [wMo G dh0 dh1 dh2 dh3 dh4 dh5 dh6 dh7 d]) [.ref dh0, .int dr, .int ph, .int fh, .int lh, .int k] sz (fun u : Int32 × MoV => some (.int u.1)) (fun u : Int32 × MoV => u = f_X10_setRule d dr ph fh lh k) (fun u : Int32 × MoV => fl [wMo G dh0 dh1 dh2 dh3 dh4 dh5 dh6 dh7 u.2]) := by
  refine w_start (by decide +kernel) (Nat.le_of_ble_eq_true rfl) ?_
  intro p e s m below meth c A hx hb hr hml hts hown hlk hin hP hD hA hK hST ls hl
  have hS : va_S A s.heap s.heap [] := va_S.rf
  have hown : s.vm.findClass RX10 = some m.cls := hown
  have hl : lv_has ls 7 [(0, .ref dh0), (1, .int dr), (2, .int ph), (3, .int fh), (4, .int lh), (5, .int k)] := hl
  have hF : f_X10_setRule d dr ph fh lh k = (let u_3 : MoV := (f_X10_keeps d); (if (f_X10_isDoor u_3 dr) = (0 : Int32) then (let u_27 : MoV := (f_X10_isThrown u_3 (1 : Int32) (1 : Int32)); ((0 : Int32), u_27)) else (let u_7 : MoV := (f_X10_isThrown u_3 (0 : Int32) (1 : Int32)); (if (f_X10_isRule ph fh lh k) = (0 : Int32) then (let u_24 : MoV := (f_X10_isThrown u_7 (1 : Int32) (2 : Int32)); ((0 : Int32), u_24)) else (let u_12 : MoV := (f_X10_isThrown u_7 (0 : Int32) (2 : Int32)); (let y_16 : Int32 := (f_X10_of u_12 dr (3 : Int32)); (let u_19 : MoV := (f_X10_rules u_12 dr ph fh lh k); (let u_22 : Int32 × MoV := (f_X10_ends u_19 y_16); (u_22.1, u_22.2))))))))) := rfl
  have hok : (ok_X10_keeps d ∧ (let u_3 : MoV := (f_X10_keeps d); (if (f_X10_isDoor u_3 dr) = (0 : Int32) then True else (let u_7 : MoV := (f_X10_isThrown u_3 (0 : Int32) (1 : Int32)); (if (f_X10_isRule ph fh lh k) = (0 : Int32) then True else (let u_12 : MoV := (f_X10_isThrown u_7 (0 : Int32) (2 : Int32)); (ok_X10_of u_12 dr (3 : Int32) ∧ (let y_16 : Int32 := (f_X10_of u_12 dr (3 : Int32)); (ok_X10_rules u_12 dr ph fh lh k ∧ (let u_19 : MoV := (f_X10_rules u_12 dr ph fh lh k); (ok_X10_ends u_19 y_16 ∧ True))))))))))) := hok
  refine lv_aload_n hx hb dX10_setRule_0 rfl (lv_at hl 0 rfl) ?_
  have k_1 := hok.1
  have hok := hok.2
  refine w_V (own := RX10) (cs := [wMo G dh0 dh1 dh2 dh3 dh4 dh5 dh6 dh7 d]) (rs := []) (As := []) (rest := []) (c_X10_keeps l G dh0 dh1 dh2 dh3 dh4 dh5 dh6 dh7 s.heap.size d k_1) ⟨hx, hb, hml, hown, hts⟩ g_X10_56 hdv_X10_keeps hK hST hS hP hD hA [0] [] rfl rfl rfl (k0 := 0) rfl rfl rfl ⟨Nat.le_of_ble_eq_true rfl, Nat.le_of_ble_eq_true rfl⟩ ⟨Nat.le_of_ble_eq_true rfl, Nat.le_of_ble_eq_true rfl⟩ rfl hl.1 rfl (Nat.le_of_ble_eq_true rfl) dX10_setRule_1 (fun u_3 H locs huu hP hD hS => ?_)
  have eu_3 := huu
  have hP : va_P G.1 vwCl (fl [wMo G dh0 dh1 dh2 dh3 dh4 dh5 dh6 dh7 u_3]) H := hP
  have hD : va_D A (fl [wMo G dh0 dh1 dh2 dh3 dh4 dh5 dh6 dh7 u_3]) := hD
  refine W.eq (g2 := F0 m 4 ls []) rfl ?_
  have hF : f_X10_setRule d dr ph fh lh k = (if (f_X10_isDoor u_3 dr) = (0 : Int32) then (let u_27 : MoV := (f_X10_isThrown u_3 (1 : Int32) (1 : Int32)); ((0 : Int32), u_27)) else (let u_7 : MoV := (f_X10_isThrown u_3 (0 : Int32) (1 : Int32)); (if (f_X10_isRule ph fh lh k) = (0 : Int32) then (let u_24 : MoV := (f_X10_isThrown u_7 (1 : Int32) (2 : Int32)); ((0 : Int32), u_24)) else (let u_12 : MoV := (f_X10_isThrown u_7 (0 : Int32) (2 : Int32)); (let y_16 : Int32 := (f_X10_of u_12 dr (3 : Int32)); (let u_19 : MoV := (f_X10_rules u_12 dr ph fh lh k); (let u_22 : Int32 × MoV := (f_X10_ends u_19 y_16); (u_22.1, u_22.2)))))))) := by subst eu_3; exact hF
  have hok : (if (f_X10_isDoor u_3 dr) = (0 : Int32) then True else (let u_7 : MoV := (f_X10_isThrown u_3 (0 : Int32) (1 : Int32)); (if (f_X10_isRule ph fh lh k) = (0 : Int32) then True else (let u_12 : MoV := (f_X10_isThrown u_7 (0 : Int32) (2 : Int32)); (ok_X10_of u_12 dr (3 : Int32) ∧ (let y_16 : Int32 := (f_X10_of u_12 dr (3 : Int32)); (ok_X10_rules u_12 dr ph fh lh k ∧ (let u_19 : MoV := (f_X10_rules u_12 dr ph fh lh k); (ok_X10_ends u_19 y_16 ∧ True))))))))) := by subst eu_3; exact hok
  refine lv_aload_n hx hb dX10_setRule_4 rfl (lv_at hl 0 rfl) ?_
  refine lv_aload_n hx hb dX10_setRule_5 rfl (lv_at hl 0 rfl) ?_
  refine lv_iload_n hx hb dX10_setRule_6 rfl (lv_at hl 1 rfl) ?_
  refine r_V (own := RX10) (v := (some (.int (f_X10_isDoor u_3 dr)))) (st1 := [.int (f_X10_isDoor u_3 dr), .ref dh0]) (As := [.int dr]) (rest := [.ref dh0]) (c_X10_isDoor l G dh0 dh1 dh2 dh3 dh4 dh5 dh6 dh7 u_3 dr) ⟨hx, hb, hml, hown, hts⟩ g_X10_75 hdv_X10_isDoor hK hST hS hP [0, 1, 2, 3, 4, 5, 6, 7] rfl (k0 := 0) rfl rfl rfl ⟨Nat.le_of_ble_eq_true rfl, Nat.le_of_ble_eq_true rfl⟩ ⟨Nat.le_of_ble_eq_true rfl, Nat.le_of_ble_eq_true rfl⟩ rfl hl.1 rfl (Nat.le_of_ble_eq_true rfl) dX10_setRule_7 rfl (fun b_4 => ?_)
  refine lv_if_ne (tgt := 17) hx hb dX10_setRule_10 (by decide) (fun c_5 => ?_) (fun c_5 => ?_)
  · have hF := hF.trans (if_neg c_5)
    have hok := Eq.mp (if_neg c_5) hok
    refine lv_iconst (v := (0 : Int32)) hx hb dX10_setRule_17 (by decide) ?_
    refine lv_iconst (v := (1 : Int32)) hx hb dX10_setRule_18 (by decide) ?_
    refine w_V (own := RX10) (cs := [wMo G dh0 dh1 dh2 dh3 dh4 dh5 dh6 dh7 u_3]) (rs := []) (As := [.int (0 : Int32), .int (1 : Int32)]) (rest := []) (c_X10_isThrown l G dh0 dh1 dh2 dh3 dh4 dh5 dh6 dh7 H.size u_3 (0 : Int32) (1 : Int32) (rfl)) ⟨hx, hb, hml, hown, hts⟩ g_X10_63 hdv_X10_isThrown hK hST hS hP hD hA [0] [] rfl rfl rfl (k0 := 0) rfl rfl rfl ⟨Nat.le_of_ble_eq_true rfl, Nat.le_of_ble_eq_true rfl⟩ ⟨Nat.le_of_ble_eq_true rfl, Nat.le_of_ble_eq_true rfl⟩ rfl hl.1 rfl (Nat.le_of_ble_eq_true rfl) dX10_setRule_19 (fun u_7 H locs huu hP hD hS => ?_)
    have eu_7 := huu
    have hP : va_P G.1 vwCl (fl [wMo G dh0 dh1 dh2 dh3 dh4 dh5 dh6 dh7 u_7]) H := hP
    have hD : va_D A (fl [wMo G dh0 dh1 dh2 dh3 dh4 dh5 dh6 dh7 u_7]) := hD
    refine W.eq (g2 := F0 m 22 ls [.int (0 : Int32)]) rfl ?_
    have hF : f_X10_setRule d dr ph fh lh k = (if (f_X10_isRule ph fh lh k) = (0 : Int32) then (let u_24 : MoV := (f_X10_isThrown u_7 (1 : Int32) (2 : Int32)); ((0 : Int32), u_24)) else (let u_12 : MoV := (f_X10_isThrown u_7 (0 : Int32) (2 : Int32)); (let y_16 : Int32 := (f_X10_of u_12 dr (3 : Int32)); (let u_19 : MoV := (f_X10_rules u_12 dr ph fh lh k); (let u_22 : Int32 × MoV := (f_X10_ends u_19 y_16); (u_22.1, u_22.2)))))) := by subst eu_7; exact hF
    have hok : (if (f_X10_isRule ph fh lh k) = (0 : Int32) then True else (let u_12 : MoV := (f_X10_isThrown u_7 (0 : Int32) (2 : Int32)); (ok_X10_of u_12 dr (3 : Int32) ∧ (let y_16 : Int32 := (f_X10_of u_12 dr (3 : Int32)); (ok_X10_rules u_12 dr ph fh lh k ∧ (let u_19 : MoV := (f_X10_rules u_12 dr ph fh lh k); (ok_X10_ends u_19 y_16 ∧ True))))))) := by subst eu_7; exact hok
    refine lv_if_ne (tgt := 50) hx hb dX10_setRule_22 (by decide) (fun c_8 => ?_) (fun c_8 => ?_)
    · exact absurd c_8 (by decide)
    · refine lv_aload_n hx hb dX10_setRule_25 rfl (lv_at hl 0 rfl) ?_
      refine lv_iload_n hx hb dX10_setRule_26 rfl (lv_at hl 2 rfl) ?_
      refine lv_iload_n hx hb dX10_setRule_27 rfl (lv_at hl 3 rfl) ?_
      refine lv_iload hx hb dX10_setRule_28 (lv_at hl 4 rfl) ?_
      refine lv_iload hx hb dX10_setRule_30 (lv_at hl 5 rfl) ?_
      refine r_S (own := RX10) (v := (some (.int (f_X10_isRule ph fh lh k)))) (st1 := [.int (f_X10_isRule ph fh lh k), .ref dh0]) (As := [.int ph, .int fh, .int lh, .int k]) (rest := [.ref dh0]) (c_X10_isRule l G ph fh lh k) ⟨hx, hb, hml, hown, hts⟩ g_X10_59 hds_X10_isRule hK hST hS hP [] rfl ⟨Nat.le_of_ble_eq_true rfl, Nat.le_of_ble_eq_true rfl⟩ ⟨Nat.le_of_ble_eq_true rfl, Nat.le_of_ble_eq_true rfl⟩ rfl hl.1 rfl (Nat.le_of_ble_eq_true rfl) dX10_setRule_32 rfl (fun b_9 => ?_)
      refine lv_if_ne (tgt := 42) hx hb dX10_setRule_35 (by decide) (fun c_10 => ?_) (fun c_10 => ?_)
      · have hF := hF.trans (if_neg c_10)
        have hok := Eq.mp (if_neg c_10) hok
        refine lv_iconst (v := (0 : Int32)) hx hb dX10_setRule_42 (by decide) ?_
        refine lv_iconst (v := (2 : Int32)) hx hb dX10_setRule_43 (by decide) ?_
        refine w_V (own := RX10) (cs := [wMo G dh0 dh1 dh2 dh3 dh4 dh5 dh6 dh7 u_7]) (rs := []) (As := [.int (0 : Int32), .int (2 : Int32)]) (rest := []) (c_X10_isThrown l G dh0 dh1 dh2 dh3 dh4 dh5 dh6 dh7 H.size u_7 (0 : Int32) (2 : Int32) (rfl)) ⟨hx, hb, hml, hown, hts⟩ g_X10_63 hdv_X10_isThrown hK hST hS hP hD hA [0] [] rfl rfl rfl (k0 := 0) rfl rfl rfl ⟨Nat.le_of_ble_eq_true rfl, Nat.le_of_ble_eq_true rfl⟩ ⟨Nat.le_of_ble_eq_true rfl, Nat.le_of_ble_eq_true rfl⟩ rfl hl.1 rfl (Nat.le_of_ble_eq_true rfl) dX10_setRule_44 (fun u_12 H locs huu hP hD hS => ?_)
        have eu_12 := huu
        have hP : va_P G.1 vwCl (fl [wMo G dh0 dh1 dh2 dh3 dh4 dh5 dh6 dh7 u_12]) H := hP
        have hD : va_D A (fl [wMo G dh0 dh1 dh2 dh3 dh4 dh5 dh6 dh7 u_12]) := hD
        refine W.eq (g2 := F0 m 47 ls [.int (0 : Int32)]) rfl ?_
        have hF : f_X10_setRule d dr ph fh lh k = (let y_16 : Int32 := (f_X10_of u_12 dr (3 : Int32)); (let u_19 : MoV := (f_X10_rules u_12 dr ph fh lh k); (let u_22 : Int32 × MoV := (f_X10_ends u_19 y_16); (u_22.1, u_22.2)))) := by subst eu_12; exact hF
        have hok : (ok_X10_of u_12 dr (3 : Int32) ∧ (let y_16 : Int32 := (f_X10_of u_12 dr (3 : Int32)); (ok_X10_rules u_12 dr ph fh lh k ∧ (let u_19 : MoV := (f_X10_rules u_12 dr ph fh lh k); (ok_X10_ends u_19 y_16 ∧ True))))) := by subst eu_12; exact hok
        refine lv_if_eq (tgt := 52) hx hb dX10_setRule_47 (by decide) (fun c_13 => ?_) (fun c_13 => ?_)
        · refine lv_aload_n hx hb dX10_setRule_52 rfl (lv_at hl 0 rfl) ?_
          refine lv_iload_n hx hb dX10_setRule_53 rfl (lv_at hl 1 rfl) ?_
          refine lv_iconst (v := (3 : Int32)) hx hb dX10_setRule_54 (by decide) ?_
          have k_14 := hok.1
          have hok := hok.2
          refine r_V (own := RX10) (v := (some (.int (f_X10_of u_12 dr (3 : Int32))))) (st1 := [.int (f_X10_of u_12 dr (3 : Int32))]) (As := [.int dr, .int (3 : Int32)]) (rest := []) (c_X10_of l G dh0 dh1 dh2 dh3 dh4 dh5 dh6 dh7 u_12 dr (3 : Int32) k_14) ⟨hx, hb, hml, hown, hts⟩ g_X10_78 hdv_X10_of hK hST hS hP [0, 1, 2, 3, 4, 5, 6, 7] rfl (k0 := 0) rfl rfl rfl ⟨Nat.le_of_ble_eq_true rfl, Nat.le_of_ble_eq_true rfl⟩ ⟨Nat.le_of_ble_eq_true rfl, Nat.le_of_ble_eq_true rfl⟩ rfl hl.1 rfl (Nat.le_of_ble_eq_true rfl) dX10_setRule_55 rfl (fun b_15 => ?_)
          refine lv_topi (fun y_16 ey_16 => ?_)
          have hF : f_X10_setRule d dr ph fh lh k = (let u_19 : MoV := (f_X10_rules u_12 dr ph fh lh k); (let u_22 : Int32 × MoV := (f_X10_ends u_19 y_16); (u_22.1, u_22.2))) := by subst ey_16; exact hF
          have hok : (ok_X10_rules u_12 dr ph fh lh k ∧ (let u_19 : MoV := (f_X10_rules u_12 dr ph fh lh k); (ok_X10_ends u_19 y_16 ∧ True))) := by subst ey_16; exact hok
          refine lv_istore (lv' := [(6, .int y_16), (0, .ref dh0), (1, .int dr), (2, .int ph), (3, .int fh), (4, .int lh), (5, .int k)]) hx hb dX10_setRule_58 hl (by decide) rfl (fun ls hl => ?_)
          refine lv_aload_n hx hb dX10_setRule_60 rfl (lv_at hl 1 rfl) ?_
          refine lv_iload_n hx hb dX10_setRule_61 rfl (lv_at hl 2 rfl) ?_
          refine lv_iload_n hx hb dX10_setRule_62 rfl (lv_at hl 3 rfl) ?_
          refine lv_iload_n hx hb dX10_setRule_63 rfl (lv_at hl 4 rfl) ?_
          refine lv_iload hx hb dX10_setRule_64 (lv_at hl 5 rfl) ?_
          refine lv_iload hx hb dX10_setRule_66 (lv_at hl 6 rfl) ?_
          have k_17 := hok.1
          have hok := hok.2
          refine w_V (own := RX10) (cs := [wMo G dh0 dh1 dh2 dh3 dh4 dh5 dh6 dh7 u_12]) (rs := []) (As := [.int dr, .int ph, .int fh, .int lh, .int k]) (rest := []) (c_X10_rules l G dh0 dh1 dh2 dh3 dh4 dh5 dh6 dh7 H.size u_12 dr ph fh lh k k_17) ⟨hx, hb, hml, hown, hts⟩ g_X10_67 hdv_X10_rules hK hST hS hP hD hA [0] [] rfl rfl rfl (k0 := 0) rfl rfl rfl ⟨Nat.le_of_ble_eq_true rfl, Nat.le_of_ble_eq_true rfl⟩ ⟨Nat.le_of_ble_eq_true rfl, Nat.le_of_ble_eq_true rfl⟩ rfl hl.1 rfl (Nat.le_of_ble_eq_true rfl) dX10_setRule_68 (fun u_19 H locs huu hP hD hS => ?_)
          have eu_19 := huu
          have hP : va_P G.1 vwCl (fl [wMo G dh0 dh1 dh2 dh3 dh4 dh5 dh6 dh7 u_19]) H := hP
          have hD : va_D A (fl [wMo G dh0 dh1 dh2 dh3 dh4 dh5 dh6 dh7 u_19]) := hD
          refine W.eq (g2 := F0 m 71 ls []) rfl ?_
          have hF : f_X10_setRule d dr ph fh lh k = (let u_22 : Int32 × MoV := (f_X10_ends u_19 y_16); (u_22.1, u_22.2)) := by subst eu_19; exact hF
          have hok : (ok_X10_ends u_19 y_16 ∧ True) := by subst eu_19; exact hok
          refine lv_aload_n hx hb dX10_setRule_71 rfl (lv_at hl 1 rfl) ?_
          refine lv_iload hx hb dX10_setRule_72 (lv_at hl 0 rfl) ?_
          have k_20 := hok.1
          have hok := hok.2
          refine w_V (own := RX10) (cs := [wMo G dh0 dh1 dh2 dh3 dh4 dh5 dh6 dh7 u_19]) (rs := []) (As := [.int y_16]) (rest := []) (c_X10_ends l G dh0 dh1 dh2 dh3 dh4 dh5 dh6 dh7 H.size u_19 y_16 k_20) ⟨hx, hb, hml, hown, hts⟩ g_X10_71 hdv_X10_ends hK hST hS hP hD hA [0] [] rfl rfl rfl (k0 := 0) rfl rfl rfl ⟨Nat.le_of_ble_eq_true rfl, Nat.le_of_ble_eq_true rfl⟩ ⟨Nat.le_of_ble_eq_true rfl, Nat.le_of_ble_eq_true rfl⟩ rfl hl.1 rfl (Nat.le_of_ble_eq_true rfl) dX10_setRule_74 (fun u_22 H locs huu hP hD hS => ?_)
          have eu_22 := huu
          have hP : va_P G.1 vwCl (fl [wMo G dh0 dh1 dh2 dh3 dh4 dh5 dh6 dh7 u_22.2]) H := hP
          have hD : va_D A (fl [wMo G dh0 dh1 dh2 dh3 dh4 dh5 dh6 dh7 u_22.2]) := hD
          refine W.eq (g2 := F0 m 77 ls [.int u_22.1]) rfl ?_
          have hF : f_X10_setRule d dr ph fh lh k = (u_22.1, u_22.2) := by subst eu_22; exact hF
          exact w_ret (u := (u_22.1, u_22.2)) hx hb hr hlk rfl hS rfl hF.symm hP hD (Nat.le_of_ble_eq_true rfl) (Nat.le_of_ble_eq_true rfl) dX10_setRule_77
        · exact absurd c_13 (by decide)
      · have hF := hF.trans (if_pos c_10)
        have hok := Eq.mp (if_pos c_10) hok
        refine lv_iconst (v := (1 : Int32)) hx hb dX10_setRule_38 (by decide) ?_
        refine lv_goto (tgt := 43) hx hb dX10_setRule_39 (by decide) ?_
        refine lv_iconst (v := (2 : Int32)) hx hb dX10_setRule_43 (by decide) ?_
        refine w_V (own := RX10) (cs := [wMo G dh0 dh1 dh2 dh3 dh4 dh5 dh6 dh7 u_7]) (rs := []) (As := [.int (1 : Int32), .int (2 : Int32)]) (rest := []) (c_X10_isThrown l G dh0 dh1 dh2 dh3 dh4 dh5 dh6 dh7 H.size u_7 (1 : Int32) (2 : Int32) (rfl)) ⟨hx, hb, hml, hown, hts⟩ g_X10_63 hdv_X10_isThrown hK hST hS hP hD hA [0] [] rfl rfl rfl (k0 := 0) rfl rfl rfl ⟨Nat.le_of_ble_eq_true rfl, Nat.le_of_ble_eq_true rfl⟩ ⟨Nat.le_of_ble_eq_true rfl, Nat.le_of_ble_eq_true rfl⟩ rfl hl.1 rfl (Nat.le_of_ble_eq_true rfl) dX10_setRule_44 (fun u_24 H locs huu hP hD hS => ?_)
        have eu_24 := huu
        have hP : va_P G.1 vwCl (fl [wMo G dh0 dh1 dh2 dh3 dh4 dh5 dh6 dh7 u_24]) H := hP
        have hD : va_D A (fl [wMo G dh0 dh1 dh2 dh3 dh4 dh5 dh6 dh7 u_24]) := hD
        refine W.eq (g2 := F0 m 47 ls [.int (1 : Int32)]) rfl ?_
        have hF : f_X10_setRule d dr ph fh lh k = ((0 : Int32), u_24) := by subst eu_24; exact hF
        refine lv_if_eq (tgt := 52) hx hb dX10_setRule_47 (by decide) (fun c_25 => ?_) (fun c_25 => ?_)
        · exact absurd c_25 (by decide)
        · refine lv_iconst (v := (0 : Int32)) hx hb dX10_setRule_50 (by decide) ?_
          exact w_ret (u := ((0 : Int32), u_24)) hx hb hr hlk rfl hS rfl hF.symm hP hD (Nat.le_of_ble_eq_true rfl) (Nat.le_of_ble_eq_true rfl) dX10_setRule_51
  · have hF := hF.trans (if_pos c_5)
    have hok := Eq.mp (if_pos c_5) hok
    refine lv_iconst (v := (1 : Int32)) hx hb dX10_setRule_13 (by decide) ?_
    refine lv_goto (tgt := 18) hx hb dX10_setRule_14 (by decide) ?_
    refine lv_iconst (v := (1 : Int32)) hx hb dX10_setRule_18 (by decide) ?_
    refine w_V (own := RX10) (cs := [wMo G dh0 dh1 dh2 dh3 dh4 dh5 dh6 dh7 u_3]) (rs := []) (As := [.int (1 : Int32), .int (1 : Int32)]) (rest := []) (c_X10_isThrown l G dh0 dh1 dh2 dh3 dh4 dh5 dh6 dh7 H.size u_3 (1 : Int32) (1 : Int32) (rfl)) ⟨hx, hb, hml, hown, hts⟩ g_X10_63 hdv_X10_isThrown hK hST hS hP hD hA [0] [] rfl rfl rfl (k0 := 0) rfl rfl rfl ⟨Nat.le_of_ble_eq_true rfl, Nat.le_of_ble_eq_true rfl⟩ ⟨Nat.le_of_ble_eq_true rfl, Nat.le_of_ble_eq_true rfl⟩ rfl hl.1 rfl (Nat.le_of_ble_eq_true rfl) dX10_setRule_19 (fun u_27 H locs huu hP hD hS => ?_)
    have eu_27 := huu
    have hP : va_P G.1 vwCl (fl [wMo G dh0 dh1 dh2 dh3 dh4 dh5 dh6 dh7 u_27]) H := hP
    have hD : va_D A (fl [wMo G dh0 dh1 dh2 dh3 dh4 dh5 dh6 dh7 u_27]) := hD
    refine W.eq (g2 := F0 m 22 ls [.int (1 : Int32)]) rfl ?_
    have hF : f_X10_setRule d dr ph fh lh k = ((0 : Int32), u_27) := by subst eu_27; exact hF
    refine lv_if_ne (tgt := 50) hx hb dX10_setRule_22 (by decide) (fun c_28 => ?_) (fun c_28 => ?_)
    · refine lv_iconst (v := (0 : Int32)) hx hb dX10_setRule_50 (by decide) ?_
      exact w_ret (u := ((0 : Int32), u_27)) hx hb hr hlk rfl hS rfl hF.symm hP hD (Nat.le_of_ble_eq_true rfl) (Nat.le_of_ble_eq_true rfl) dX10_setRule_51
    · exact absurd c_28 (by decide)
theorem dX10_isOwnHour_0 : decode cX10_isOwnHour 0 = .ok (.aload_n 0, 1) := by decide +kernel
theorem dX10_isOwnHour_1 : decode cX10_isOwnHour 1 = .ok (.iload_n 1, 1) := by decide +kernel
theorem dX10_isOwnHour_2 : decode cX10_isOwnHour 2 = .ok (.iconst 1, 1) := by decide +kernel
theorem dX10_isOwnHour_3 : decode cX10_isOwnHour 3 = .ok (.invokevirtual 78, 3) := by decide +kernel
theorem dX10_isOwnHour_6 : decode cX10_isOwnHour 6 = .ok (.istore_n 3, 1) := by decide +kernel
theorem dX10_isOwnHour_7 : decode cX10_isOwnHour 7 = .ok (.aload_n 0, 1) := by decide +kernel
theorem dX10_isOwnHour_8 : decode cX10_isOwnHour 8 = .ok (.iload_n 1, 1) := by decide +kernel
theorem dX10_isOwnHour_9 : decode cX10_isOwnHour 9 = .ok (.iconst 2, 1) := by decide +kernel
theorem dX10_isOwnHour_10 : decode cX10_isOwnHour 10 = .ok (.invokevirtual 78, 3) := by decide +kernel
theorem dX10_isOwnHour_13 : decode cX10_isOwnHour 13 = .ok (.istore 4, 2) := by decide +kernel
theorem dX10_isOwnHour_15 : decode cX10_isOwnHour 15 = .ok (.iload_n 3, 1) := by decide +kernel
theorem dX10_isOwnHour_16 : decode cX10_isOwnHour 16 = .ok (.iload 4, 2) := by decide +kernel
theorem dX10_isOwnHour_18 : decode cX10_isOwnHour 18 = .ok (.if_icmp .gt 13, 3) := by decide +kernel
theorem dX10_isOwnHour_31 : decode cX10_isOwnHour 31 = .ok (.iload_n 2, 1) := by decide +kernel
theorem dX10_isOwnHour_32 : decode cX10_isOwnHour 32 = .ok (.iload_n 3, 1) := by decide +kernel
theorem dX10_isOwnHour_33 : decode cX10_isOwnHour 33 = .ok (.if_icmp .ge 9, 3) := by decide +kernel
theorem dX10_isOwnHour_42 : decode cX10_isOwnHour 42 = .ok (.iconst 1, 1) := by decide +kernel
theorem dX10_isOwnHour_43 : decode cX10_isOwnHour 43 = .ok (.goto 4, 3) := by decide +kernel
theorem dX10_isOwnHour_47 : decode cX10_isOwnHour 47 = .ok (.ireturn, 1) := by decide +kernel
theorem dX10_isOwnHour_36 : decode cX10_isOwnHour 36 = .ok (.iload_n 2, 1) := by decide +kernel
theorem dX10_isOwnHour_37 : decode cX10_isOwnHour 37 = .ok (.iload 4, 2) := by decide +kernel
theorem dX10_isOwnHour_39 : decode cX10_isOwnHour 39 = .ok (.if_icmp .gt 7, 3) := by decide +kernel
theorem dX10_isOwnHour_46 : decode cX10_isOwnHour 46 = .ok (.iconst 0, 1) := by decide +kernel
theorem dX10_isOwnHour_21 : decode cX10_isOwnHour 21 = .ok (.iload_n 2, 1) := by decide +kernel
theorem dX10_isOwnHour_22 : decode cX10_isOwnHour 22 = .ok (.iload_n 3, 1) := by decide +kernel
theorem dX10_isOwnHour_23 : decode cX10_isOwnHour 23 = .ok (.iload 4, 2) := by decide +kernel
theorem dX10_isOwnHour_25 : decode cX10_isOwnHour 25 = .ok (.invokestatic 48, 3) := by decide +kernel
theorem dX10_isOwnHour_28 : decode cX10_isOwnHour 28 = .ok (.goto 19, 3) := by decide +kernel
def f_X10_isOwnHour (d : MoV) (dr : Int32) (hh : Int32) : Int32 := (let y_3 : Int32 := (f_X10_of d dr (1 : Int32)); (let y_6 : Int32 := (f_X10_of d dr (2 : Int32)); (if y_6 < y_3 then (if y_3 ≤ hh then (1 : Int32) else (if y_6 < hh then (0 : Int32) else (1 : Int32))) else (f_X10_isIn hh y_3 y_6))))
def ok_X10_isOwnHour (d : MoV) (dr : Int32) (hh : Int32) : Prop := (ok_X10_of d dr (1 : Int32) ∧ (let y_3 : Int32 := (f_X10_of d dr (1 : Int32)); (ok_X10_of d dr (2 : Int32) ∧ True)))
set_option maxHeartbeats 4000000 in
set_option maxRecDepth 100000 in
theorem c_X10_isOwnHour (l : Launch) (G : GG) (dh0 : Nat) (dh1 : Nat) (dh2 : Nat) (dh3 : Nat) (dh4 : Nat) (dh5 : Nat) (dh6 : Nat) (dh7 : Nat) (d : MoV) (dr : Int32) (hh : Int32) (hok : ok_X10_isOwnHour d dr hh) : rMet l yX10_isOwnHour cX10_isOwnHour 5 (some .boolean) 2 G (fl [wMo G dh0 dh1 dh2 dh3 dh4 dh5 dh6 dh7 d]) [.ref dh0, .int dr, .int hh] (some (.int (f_X10_isOwnHour d dr hh))) (narrow .boolean (.int (f_X10_isOwnHour d dr hh)) = .int (f_X10_isOwnHour d dr hh)) := by
  refine r_start (by decide +kernel) (Nat.le_of_ble_eq_true rfl) ?_
  intro p e s m below meth c hx hb hr hml hts hown hlk hP hK hST ls hl
  have hS : va_S (fun _ => False) s.heap s.heap [] := va_S.rf
  have hown : s.vm.findClass RX10 = some m.cls := hown
  have hl : lv_has ls 5 [(0, .ref dh0), (1, .int dr), (2, .int hh)] := hl
  have hF : f_X10_isOwnHour d dr hh = (let y_3 : Int32 := (f_X10_of d dr (1 : Int32)); (let y_6 : Int32 := (f_X10_of d dr (2 : Int32)); (if y_6 < y_3 then (if y_3 ≤ hh then (1 : Int32) else (if y_6 < hh then (0 : Int32) else (1 : Int32))) else (f_X10_isIn hh y_3 y_6)))) := rfl
  have hok : (ok_X10_of d dr (1 : Int32) ∧ (let y_3 : Int32 := (f_X10_of d dr (1 : Int32)); (ok_X10_of d dr (2 : Int32) ∧ True))) := hok
  refine lv_aload_n hx hb dX10_isOwnHour_0 rfl (lv_at hl 0 rfl) ?_
  refine lv_iload_n hx hb dX10_isOwnHour_1 rfl (lv_at hl 1 rfl) ?_
  refine lv_iconst (v := (1 : Int32)) hx hb dX10_isOwnHour_2 (by decide) ?_
  have k_1 := hok.1
  have hok := hok.2
  refine r_V (own := RX10) (v := (some (.int (f_X10_of d dr (1 : Int32))))) (st1 := [.int (f_X10_of d dr (1 : Int32))]) (As := [.int dr, .int (1 : Int32)]) (rest := []) (c_X10_of l G dh0 dh1 dh2 dh3 dh4 dh5 dh6 dh7 d dr (1 : Int32) k_1) ⟨hx, hb, hml, hown, hts⟩ g_X10_78 hdv_X10_of hK hST hS hP [0, 1, 2, 3, 4, 5, 6, 7] rfl (k0 := 0) rfl rfl rfl ⟨Nat.le_of_ble_eq_true rfl, Nat.le_of_ble_eq_true rfl⟩ ⟨Nat.le_of_ble_eq_true rfl, Nat.le_of_ble_eq_true rfl⟩ rfl hl.1 rfl (Nat.le_of_ble_eq_true rfl) dX10_isOwnHour_3 rfl (fun b_2 => ?_)
  refine lv_topi (fun y_3 ey_3 => ?_)
  have hF : f_X10_isOwnHour d dr hh = (let y_6 : Int32 := (f_X10_of d dr (2 : Int32)); (if y_6 < y_3 then (if y_3 ≤ hh then (1 : Int32) else (if y_6 < hh then (0 : Int32) else (1 : Int32))) else (f_X10_isIn hh y_3 y_6))) := by subst ey_3; exact hF
  have hok : (ok_X10_of d dr (2 : Int32) ∧ True) := by subst ey_3; exact hok
  refine lv_istore_n (lv' := [(3, .int y_3), (0, .ref dh0), (1, .int dr), (2, .int hh)]) hx hb dX10_isOwnHour_6 rfl hl (by decide) rfl (fun ls hl => ?_)
  refine lv_aload_n hx hb dX10_isOwnHour_7 rfl (lv_at hl 1 rfl) ?_
  refine lv_iload_n hx hb dX10_isOwnHour_8 rfl (lv_at hl 2 rfl) ?_
  refine lv_iconst (v := (2 : Int32)) hx hb dX10_isOwnHour_9 (by decide) ?_
  have k_4 := hok.1
  have hok := hok.2
  refine r_V (own := RX10) (v := (some (.int (f_X10_of d dr (2 : Int32))))) (st1 := [.int (f_X10_of d dr (2 : Int32))]) (As := [.int dr, .int (2 : Int32)]) (rest := []) (c_X10_of l G dh0 dh1 dh2 dh3 dh4 dh5 dh6 dh7 d dr (2 : Int32) k_4) ⟨hx, hb, hml, hown, hts⟩ g_X10_78 hdv_X10_of hK hST hS hP [0, 1, 2, 3, 4, 5, 6, 7] rfl (k0 := 0) rfl rfl rfl ⟨Nat.le_of_ble_eq_true rfl, Nat.le_of_ble_eq_true rfl⟩ ⟨Nat.le_of_ble_eq_true rfl, Nat.le_of_ble_eq_true rfl⟩ rfl hl.1 rfl (Nat.le_of_ble_eq_true rfl) dX10_isOwnHour_10 rfl (fun b_5 => ?_)
  refine lv_topi (fun y_6 ey_6 => ?_)
  have hF : f_X10_isOwnHour d dr hh = (if y_6 < y_3 then (if y_3 ≤ hh then (1 : Int32) else (if y_6 < hh then (0 : Int32) else (1 : Int32))) else (f_X10_isIn hh y_3 y_6)) := by subst ey_6; exact hF
  refine lv_istore (lv' := [(4, .int y_6), (3, .int y_3), (0, .ref dh0), (1, .int dr), (2, .int hh)]) hx hb dX10_isOwnHour_13 hl (by decide) rfl (fun ls hl => ?_)
  refine lv_iload_n hx hb dX10_isOwnHour_15 rfl (lv_at hl 1 rfl) ?_
  refine lv_iload hx hb dX10_isOwnHour_16 (lv_at hl 0 rfl) ?_
  refine lv_icmp_gt (tgt := 31) hx hb dX10_isOwnHour_18 (by decide) (fun c_7 => ?_) (fun c_7 => ?_)
  · have hF := hF.trans (if_pos c_7)
    refine lv_iload_n hx hb dX10_isOwnHour_31 rfl (lv_at hl 4 rfl) ?_
    refine lv_iload_n hx hb dX10_isOwnHour_32 rfl (lv_at hl 1 rfl) ?_
    refine lv_icmp_ge (tgt := 42) hx hb dX10_isOwnHour_33 (by decide) (fun c_8 => ?_) (fun c_8 => ?_)
    · have hF := hF.trans (if_pos c_8)
      refine lv_iconst (v := (1 : Int32)) hx hb dX10_isOwnHour_42 (by decide) ?_
      refine lv_goto (tgt := 47) hx hb dX10_isOwnHour_43 (by decide) ?_
      exact r_ret hx hb hr hlk rfl (by rw [hF]) (by rw [hF]; exact (rfl : narrow .boolean (.int (1 : Int32)) = .int (1 : Int32))) dX10_isOwnHour_47
    · have hF := hF.trans (if_neg c_8)
      refine lv_iload_n hx hb dX10_isOwnHour_36 rfl (lv_at hl 4 rfl) ?_
      refine lv_iload hx hb dX10_isOwnHour_37 (lv_at hl 0 rfl) ?_
      refine lv_icmp_gt (tgt := 46) hx hb dX10_isOwnHour_39 (by decide) (fun c_9 => ?_) (fun c_9 => ?_)
      · have hF := hF.trans (if_pos c_9)
        refine lv_iconst (v := (0 : Int32)) hx hb dX10_isOwnHour_46 (by decide) ?_
        exact r_ret hx hb hr hlk rfl (by rw [hF]) (by rw [hF]; exact (rfl : narrow .boolean (.int (0 : Int32)) = .int (0 : Int32))) dX10_isOwnHour_47
      · have hF := hF.trans (if_neg c_9)
        refine lv_iconst (v := (1 : Int32)) hx hb dX10_isOwnHour_42 (by decide) ?_
        refine lv_goto (tgt := 47) hx hb dX10_isOwnHour_43 (by decide) ?_
        exact r_ret hx hb hr hlk rfl (by rw [hF]) (by rw [hF]; exact (rfl : narrow .boolean (.int (1 : Int32)) = .int (1 : Int32))) dX10_isOwnHour_47
  · have hF := hF.trans (if_neg c_7)
    refine lv_iload_n hx hb dX10_isOwnHour_21 rfl (lv_at hl 4 rfl) ?_
    refine lv_iload_n hx hb dX10_isOwnHour_22 rfl (lv_at hl 1 rfl) ?_
    refine lv_iload hx hb dX10_isOwnHour_23 (lv_at hl 0 rfl) ?_
    refine r_S (own := RX10) (v := (some (.int (f_X10_isIn hh y_3 y_6)))) (st1 := [.int (f_X10_isIn hh y_3 y_6)]) (As := [.int hh, .int y_3, .int y_6]) (rest := []) (c_X10_isIn l G hh y_3 y_6) ⟨hx, hb, hml, hown, hts⟩ g_X10_48 hds_X10_isIn hK hST hS hP [] rfl ⟨Nat.le_of_ble_eq_true rfl, Nat.le_of_ble_eq_true rfl⟩ ⟨Nat.le_of_ble_eq_true rfl, Nat.le_of_ble_eq_true rfl⟩ rfl hl.1 rfl (Nat.le_of_ble_eq_true rfl) dX10_isOwnHour_25 rfl (fun b_10 => ?_)
    refine lv_goto (tgt := 47) hx hb dX10_isOwnHour_28 (by decide) ?_
    exact r_ret hx hb hr hlk b_10 (by rw [hF]) (by rw [hF]; exact (b_10 : narrow .boolean (.int (f_X10_isIn hh y_3 y_6)) = .int (f_X10_isIn hh y_3 y_6))) dX10_isOwnHour_47
theorem dX10_place_0 : decode cX10_place 0 = .ok (.iconst 0, 1) := by decide +kernel
theorem dX10_place_1 : decode cX10_place 1 = .ok (.istore_n 3, 1) := by decide +kernel
theorem dX10_place_2 : decode cX10_place 2 = .ok (.iload_n 3, 1) := by decide +kernel
theorem dX10_place_3 : decode cX10_place 3 = .ok (.aload_n 0, 1) := by decide +kernel
theorem dX10_place_4 : decode cX10_place 4 = .ok (.getfield 9, 3) := by decide +kernel
theorem dX10_place_7 : decode cX10_place 7 = .ok (.iconst 4, 1) := by decide +kernel
theorem dX10_place_8 : decode cX10_place 8 = .ok (.iaload, 1) := by decide +kernel
theorem dX10_place_9 : decode cX10_place 9 = .ok (.if_icmp .ge 31, 3) := by decide +kernel
theorem dX10_place_40 : decode cX10_place 40 = .ok (.iconst (-1), 1) := by decide +kernel
theorem dX10_place_41 : decode cX10_place 41 = .ok (.ireturn, 1) := by decide +kernel
theorem dX10_place_12 : decode cX10_place 12 = .ok (.aload_n 0, 1) := by decide +kernel
theorem dX10_place_13 : decode cX10_place 13 = .ok (.iload_n 3, 1) := by decide +kernel
theorem dX10_place_14 : decode cX10_place 14 = .ok (.iconst 1, 1) := by decide +kernel
theorem dX10_place_15 : decode cX10_place 15 = .ok (.invokevirtual 82, 3) := by decide +kernel
theorem u_1796 : Cond.methodLink RX10 82 yX10_ofException ∈ UW := uw 1796 (by decide +kernel) rfl
theorem u_1798 : Cond.instanceMethod yX10_ofException ∈ UW := uw 1798 (by decide +kernel) rfl
theorem u_29 : Cond.selects RX10 yX10_ofException yX10_ofException ∈ UW := uw 29 (by decide +kernel) rfl
theorem u_1799 : Cond.code yX10_ofException cX10_ofException 3 (some .int) ∈ UW := uw 1799 (by decide +kernel) rfl
theorem g_X10_82 : GoodIn UW (wsV RX10 82 RX10 yX10_ofException (wsU yX10_ofException cX10_ofException 3 (some .int))) := gV u_1796 u_1798 u_29 u_77 u_1799
theorem hdv_X10_ofException : yX10_ofException.cls = RX10 ∧ yX10_ofException.cls ≠ "java/lang/invoke/MethodHandle" ∧ yX10_ofException.cls ≠ "java/lang/invoke/VarHandle" ∧ (parseMethodDescriptor yX10_ofException.desc).map (fun d => d.parameters.length) = some 2 := by decide +kernel
theorem dX10_place_18 : decode cX10_place 18 = .ok (.iload_n 1, 1) := by decide +kernel
theorem dX10_place_19 : decode cX10_place 19 = .ok (.if_icmp .ne 15, 3) := by decide +kernel
theorem dX10_place_34 : decode cX10_place 34 = .ok (.iinc 3 1, 3) := by decide +kernel
theorem dX10_place_37 : decode cX10_place 37 = .ok (.goto (-35), 3) := by decide +kernel
theorem dX10_place_22 : decode cX10_place 22 = .ok (.aload_n 0, 1) := by decide +kernel
theorem dX10_place_23 : decode cX10_place 23 = .ok (.iload_n 3, 1) := by decide +kernel
theorem dX10_place_24 : decode cX10_place 24 = .ok (.iconst 0, 1) := by decide +kernel
theorem dX10_place_25 : decode cX10_place 25 = .ok (.invokevirtual 82, 3) := by decide +kernel
theorem dX10_place_28 : decode cX10_place 28 = .ok (.iload_n 2, 1) := by decide +kernel
theorem dX10_place_29 : decode cX10_place 29 = .ok (.if_icmp .ne 5, 3) := by decide +kernel
theorem dX10_place_32 : decode cX10_place 32 = .ok (.iload_n 3, 1) := by decide +kernel
theorem dX10_place_33 : decode cX10_place 33 = .ok (.ireturn, 1) := by decide +kernel
def lp_X10_place_2 (d : MoV) (dr : Int32) (dy : Int32) : Nat → Int32 → Int32
  | 0, _ => 0
  | n + 1, x3 => (if (d.1 (4 : Int32).toNatClampNeg) ≤ x3 then (-1 : Int32) else (if (f_X10_ofException d x3 (1 : Int32)) = dr then (if (f_X10_ofException d x3 (0 : Int32)) = dy then x3 else (lp_X10_place_2 d dr dy n (x3 + 1))) else (lp_X10_place_2 d dr dy n (x3 + 1))))
def okl_lp_X10_place_2 (d : MoV) (dr : Int32) (dy : Int32) : Nat → Int32 → Prop
  | 0, _ => True
  | n + 1, x3 => (if (d.1 (4 : Int32).toNatClampNeg) ≤ x3 then True else (ok_X10_ofException d x3 (1 : Int32) ∧ (if (f_X10_ofException d x3 (1 : Int32)) = dr then (ok_X10_ofException d x3 (0 : Int32) ∧ (if (f_X10_ofException d x3 (0 : Int32)) = dy then True else (okl_lp_X10_place_2 d dr dy n (x3 + 1)))) else (okl_lp_X10_place_2 d dr dy n (x3 + 1)))))
def f_X10_place (d : MoV) (dr : Int32) (dy : Int32) : Int32 := (lp_X10_place_2 d dr dy ((((d.1 (4 : Int32).toNatClampNeg)).toInt - ((0 : Int32)).toInt).toNat + 1) (0 : Int32))
def ok_X10_place (d : MoV) (dr : Int32) (dy : Int32) : Prop := (okl_lp_X10_place_2 d dr dy ((((d.1 (4 : Int32).toNatClampNeg)).toInt - ((0 : Int32)).toInt).toNat + 1) (0 : Int32))
set_option maxHeartbeats 4000000 in
set_option maxRecDepth 100000 in
theorem c_X10_place (l : Launch) (G : GG) (dh0 : Nat) (dh1 : Nat) (dh2 : Nat) (dh3 : Nat) (dh4 : Nat) (dh5 : Nat) (dh6 : Nat) (dh7 : Nat) (d : MoV) (dr : Int32) (dy : Int32) (hok : ok_X10_place d dr dy) : rMet l yX10_place cX10_place 4 (some .int) 2 G (fl [wMo G dh0 dh1 dh2 dh3 dh4 dh5 dh6 dh7 d]) [.ref dh0, .int dr, .int dy] (some (.int (f_X10_place d dr dy))) (True) := by
  refine r_start (by decide +kernel) (Nat.le_of_ble_eq_true rfl) ?_
  intro p e s m below meth c hx hb hr hml hts hown hlk hP hK hST ls hl
  have hS : va_S (fun _ => False) s.heap s.heap [] := va_S.rf
  have hown : s.vm.findClass RX10 = some m.cls := hown
  have hl : lv_has ls 4 [(0, .ref dh0), (1, .int dr), (2, .int dy)] := hl
  have hF : f_X10_place d dr dy = (lp_X10_place_2 d dr dy ((((d.1 (4 : Int32).toNatClampNeg)).toInt - ((0 : Int32)).toInt).toNat + 1) (0 : Int32)) := rfl
  have hok : (okl_lp_X10_place_2 d dr dy ((((d.1 (4 : Int32).toNatClampNeg)).toInt - ((0 : Int32)).toInt).toNat + 1) (0 : Int32)) := hok
  refine lv_iconst (v := (0 : Int32)) hx hb dX10_place_0 (by decide) ?_
  refine lv_istore_n (lv' := [(3, .int (0 : Int32)), (0, .ref dh0), (1, .int dr), (2, .int dy)]) hx hb dX10_place_1 rfl hl (by decide) rfl (fun ls hl => ?_)
  have L2 : ∀ (n : Nat) (x3 : Int32) (ls : Array Slot), lv_has ls 4 [(3, .int x3), (0, .ref dh0), (1, .int dr), (2, .int dy)] → (upI x3 (d.1 (4 : Int32).toNatClampNeg) n) → f_X10_place d dr dy = lp_X10_place_2 d dr dy n x3 → okl_lp_X10_place_2 d dr dy n x3 → W p l e (rmd 2 0 0) s m ([.ref dh0, .int dr, .int dy] : List Value).toArray below meth c s.heap [] 0 0 (MQ below (rQ (some (.int (f_X10_place d dr dy))) (True)) ([.ref dh0, .int dr, .int dy] : List Value).toArray s 0 0 (fun _ => False)) (F0 m 2 ls []) := by
    intro n
    induction n with
    | zero => intro x3 ls hl hu; exact absurd hu (upI_0)
    | succ n ih =>
      intro x3 ls hl hu hF hok
      have hF : f_X10_place d dr dy = (if (d.1 (4 : Int32).toNatClampNeg) ≤ x3 then (-1 : Int32) else (if (f_X10_ofException d x3 (1 : Int32)) = dr then (if (f_X10_ofException d x3 (0 : Int32)) = dy then x3 else (lp_X10_place_2 d dr dy n (x3 + 1))) else (lp_X10_place_2 d dr dy n (x3 + 1)))) := hF
      have hok : (if (d.1 (4 : Int32).toNatClampNeg) ≤ x3 then True else (ok_X10_ofException d x3 (1 : Int32) ∧ (if (f_X10_ofException d x3 (1 : Int32)) = dr then (ok_X10_ofException d x3 (0 : Int32) ∧ (if (f_X10_ofException d x3 (0 : Int32)) = dy then True else (okl_lp_X10_place_2 d dr dy n (x3 + 1)))) else (okl_lp_X10_place_2 d dr dy n (x3 + 1))))) := hok
      refine lv_iload_n hx hb dX10_place_2 rfl (lv_at hl 0 rfl) ?_
      refine lv_aload_n hx hb dX10_place_3 rfl (lv_at hl 1 rfl) ?_
      refine va_get (D := G.1) (ci := 12) (v := .ref dh1) (C := RX10) (T := TX10) (N := 17) hx hb hts uws_X10 hown hK hP 0 rfl rfl 0 (by decide) (hts _ u_1680) (fun _ h9 => h9) rfl dX10_place_4 ?_
      refine lv_iconst (v := (4 : Int32)) hx hb dX10_place_7 (by decide) ?_
      refine va_iald hx hb hK hP 1 0 rfl rfl (vp_in_nI (n := 4) (by decide) (by decide)) dX10_place_8 ?_
      refine lv_icmp_ge (tgt := 40) hx hb dX10_place_9 (by decide) (fun c_1 => ?_) (fun c_1 => ?_)
      · have hF := hF.trans (if_pos c_1)
        have hok := Eq.mp (if_pos c_1) hok
        refine lv_iconst (v := (-1 : Int32)) hx hb dX10_place_40 (by decide) ?_
        exact r_ret hx hb hr hlk rfl (by rw [hF]) trivial dX10_place_41
      · have hF := hF.trans (if_neg c_1)
        have hok := Eq.mp (if_neg c_1) hok
        refine lv_aload_n hx hb dX10_place_12 rfl (lv_at hl 1 rfl) ?_
        refine lv_iload_n hx hb dX10_place_13 rfl (lv_at hl 0 rfl) ?_
        refine lv_iconst (v := (1 : Int32)) hx hb dX10_place_14 (by decide) ?_
        have k_2 := hok.1
        have hok := hok.2
        refine r_V (own := RX10) (v := (some (.int (f_X10_ofException d x3 (1 : Int32))))) (st1 := [.int (f_X10_ofException d x3 (1 : Int32))]) (As := [.int x3, .int (1 : Int32)]) (rest := []) (c_X10_ofException l G dh0 dh1 dh2 dh3 dh4 dh5 dh6 dh7 d x3 (1 : Int32) k_2) ⟨hx, hb, hml, hown, hts⟩ g_X10_82 hdv_X10_ofException hK hST hS hP [0, 1, 2, 3, 4, 5, 6, 7] rfl (k0 := 0) rfl rfl rfl ⟨Nat.le_of_ble_eq_true rfl, Nat.le_of_ble_eq_true rfl⟩ ⟨Nat.le_of_ble_eq_true rfl, Nat.le_of_ble_eq_true rfl⟩ rfl hl.1 rfl (Nat.le_of_ble_eq_true rfl) dX10_place_15 rfl (fun b_3 => ?_)
        refine lv_iload_n hx hb dX10_place_18 rfl (lv_at hl 2 rfl) ?_
        refine lv_icmp_ne (tgt := 34) hx hb dX10_place_19 (by decide) (fun c_4 => ?_) (fun c_4 => ?_)
        · have hF := hF.trans (if_neg c_4)
          have hok := Eq.mp (if_neg c_4) hok
          refine lv_iinc (v := (x3 + 1)) (lv' := [(3, .int (x3 + 1)), (0, .ref dh0), (1, .int dr), (2, .int dy)]) hx hb dX10_place_34 hl (k := 0) rfl rfl (by decide) rfl (fun ls hl => ?_)
          refine lv_goto (tgt := 2) hx hb dX10_place_37 (by decide) ?_
          exact ih (x3 + 1) ls (lv_sub hl [0, 1, 2, 3] rfl) (upI_s (Int32.not_le.mp c_1) hu) hF hok
        · have hF := hF.trans (if_pos c_4)
          have hok := Eq.mp (if_pos c_4) hok
          refine lv_aload_n hx hb dX10_place_22 rfl (lv_at hl 1 rfl) ?_
          refine lv_iload_n hx hb dX10_place_23 rfl (lv_at hl 0 rfl) ?_
          refine lv_iconst (v := (0 : Int32)) hx hb dX10_place_24 (by decide) ?_
          have k_5 := hok.1
          have hok := hok.2
          refine r_V (own := RX10) (v := (some (.int (f_X10_ofException d x3 (0 : Int32))))) (st1 := [.int (f_X10_ofException d x3 (0 : Int32))]) (As := [.int x3, .int (0 : Int32)]) (rest := []) (c_X10_ofException l G dh0 dh1 dh2 dh3 dh4 dh5 dh6 dh7 d x3 (0 : Int32) k_5) ⟨hx, hb, hml, hown, hts⟩ g_X10_82 hdv_X10_ofException hK hST hS hP [0, 1, 2, 3, 4, 5, 6, 7] rfl (k0 := 0) rfl rfl rfl ⟨Nat.le_of_ble_eq_true rfl, Nat.le_of_ble_eq_true rfl⟩ ⟨Nat.le_of_ble_eq_true rfl, Nat.le_of_ble_eq_true rfl⟩ rfl hl.1 rfl (Nat.le_of_ble_eq_true rfl) dX10_place_25 rfl (fun b_6 => ?_)
          refine lv_iload_n hx hb dX10_place_28 rfl (lv_at hl 3 rfl) ?_
          refine lv_icmp_ne (tgt := 34) hx hb dX10_place_29 (by decide) (fun c_7 => ?_) (fun c_7 => ?_)
          · have hF := hF.trans (if_neg c_7)
            have hok := Eq.mp (if_neg c_7) hok
            refine lv_iinc (v := (x3 + 1)) (lv' := [(3, .int (x3 + 1)), (0, .ref dh0), (1, .int dr), (2, .int dy)]) hx hb dX10_place_34 hl (k := 0) rfl rfl (by decide) rfl (fun ls hl => ?_)
            refine lv_goto (tgt := 2) hx hb dX10_place_37 (by decide) ?_
            exact ih (x3 + 1) ls (lv_sub hl [0, 1, 2, 3] rfl) (upI_s (Int32.not_le.mp c_1) hu) hF hok
          · have hF := hF.trans (if_pos c_7)
            have hok := Eq.mp (if_pos c_7) hok
            refine lv_iload_n hx hb dX10_place_32 rfl (lv_at hl 0 rfl) ?_
            exact r_ret hx hb hr hlk rfl (by rw [hF]) trivial dX10_place_33
  exact L2 ((((d.1 (4 : Int32).toNatClampNeg)).toInt - ((0 : Int32)).toInt).toNat + 1) (0 : Int32) ls (lv_sub hl [0, 1, 2, 3] rfl) (upI_i) hF hok
