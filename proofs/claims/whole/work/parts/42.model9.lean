theorem dX10_readsT_0 : decode cX10_readsT 0 = .ok (.aload_n 0, 1) := by decide +kernel
theorem dX10_readsT_1 : decode cX10_readsT 1 = .ok (.bipush 97, 2) := by decide +kernel
theorem dX10_readsT_3 : decode cX10_readsT 3 = .ok (.invokevirtual 194, 3) := by decide +kernel
theorem dX10_readsT_6 : decode cX10_readsT 6 = .ok (.ifCond .eq 26, 3) := by decide +kernel
theorem dX10_readsT_32 : decode cX10_readsT 32 = .ok (.aload_n 0, 1) := by decide +kernel
theorem dX10_readsT_33 : decode cX10_readsT 33 = .ok (.getfield 35, 3) := by decide +kernel
theorem dX10_readsT_36 : decode cX10_readsT 36 = .ok (.iload_n 1, 1) := by decide +kernel
theorem dX10_readsT_37 : decode cX10_readsT 37 = .ok (.bipush 114, 2) := by decide +kernel
theorem dX10_readsT_39 : decode cX10_readsT 39 = .ok (.iastore, 1) := by decide +kernel
theorem dX10_readsT_40 : decode cX10_readsT 40 = .ok (.aload_n 0, 1) := by decide +kernel
theorem dX10_readsT_41 : decode cX10_readsT 41 = .ok (.ldc 209, 2) := by decide +kernel
theorem dX10_readsT_43 : decode cX10_readsT 43 = .ok (.invokevirtual 202, 3) := by decide +kernel
theorem u_2088 : Cond.methodLink RX10 202 yX10_isWord ∈ UW := uw 2088 (by decide +kernel) rfl
theorem u_2090 : Cond.instanceMethod yX10_isWord ∈ UW := uw 2090 (by decide +kernel) rfl
theorem u_57 : Cond.selects RX10 yX10_isWord yX10_isWord ∈ UW := uw 57 (by decide +kernel) rfl
theorem u_2091 : Cond.code yX10_isWord cX10_isWord 3 (some .boolean) ∈ UW := uw 2091 (by decide +kernel) rfl
theorem g_X10_202 : GoodIn UW (wsV RX10 202 RX10 yX10_isWord (wsU yX10_isWord cX10_isWord 3 (some .boolean))) := gV u_2088 u_2090 u_57 u_77 u_2091
theorem hdv_X10_isWord : yX10_isWord.cls = RX10 ∧ yX10_isWord.cls ≠ "java/lang/invoke/MethodHandle" ∧ yX10_isWord.cls ≠ "java/lang/invoke/VarHandle" ∧ (parseMethodDescriptor yX10_isWord.desc).map (fun d => d.parameters.length) = some 1 := by decide +kernel
theorem dX10_readsT_46 : decode cX10_readsT 46 = .ok (.ifCond .eq 15, 3) := by decide +kernel
theorem dX10_readsT_61 : decode cX10_readsT 61 = .ok (.iconst 0, 1) := by decide +kernel
theorem dX10_readsT_62 : decode cX10_readsT 62 = .ok (.ireturn, 1) := by decide +kernel
theorem dX10_readsT_49 : decode cX10_readsT 49 = .ok (.aload_n 0, 1) := by decide +kernel
theorem dX10_readsT_50 : decode cX10_readsT 50 = .ok (.iload_n 1, 1) := by decide +kernel
theorem dX10_readsT_51 : decode cX10_readsT 51 = .ok (.invokevirtual 206, 3) := by decide +kernel
theorem u_2098 : Cond.methodLink RX10 206 yX10_isPair ∈ UW := uw 2098 (by decide +kernel) rfl
theorem u_2100 : Cond.instanceMethod yX10_isPair ∈ UW := uw 2100 (by decide +kernel) rfl
theorem u_59 : Cond.selects RX10 yX10_isPair yX10_isPair ∈ UW := uw 59 (by decide +kernel) rfl
theorem u_2101 : Cond.code yX10_isPair cX10_isPair 2 (some .boolean) ∈ UW := uw 2101 (by decide +kernel) rfl
theorem g_X10_206 : GoodIn UW (wsV RX10 206 RX10 yX10_isPair (wsU yX10_isPair cX10_isPair 2 (some .boolean))) := gV u_2098 u_2100 u_59 u_77 u_2101
theorem hdv_X10_isPair : yX10_isPair.cls = RX10 ∧ yX10_isPair.cls ≠ "java/lang/invoke/MethodHandle" ∧ yX10_isPair.cls ≠ "java/lang/invoke/VarHandle" ∧ (parseMethodDescriptor yX10_isPair.desc).map (fun d => d.parameters.length) = some 1 := by decide +kernel
theorem dX10_readsT_54 : decode cX10_readsT 54 = .ok (.ifCond .eq 7, 3) := by decide +kernel
theorem dX10_readsT_57 : decode cX10_readsT 57 = .ok (.iconst 1, 1) := by decide +kernel
theorem dX10_readsT_58 : decode cX10_readsT 58 = .ok (.goto 4, 3) := by decide +kernel
theorem dX10_readsT_9 : decode cX10_readsT 9 = .ok (.aload_n 0, 1) := by decide +kernel
theorem dX10_readsT_10 : decode cX10_readsT 10 = .ok (.ldc 200, 2) := by decide +kernel
theorem dX10_readsT_12 : decode cX10_readsT 12 = .ok (.invokevirtual 202, 3) := by decide +kernel
theorem dX10_readsT_15 : decode cX10_readsT 15 = .ok (.ifCond .eq 15, 3) := by decide +kernel
theorem dX10_readsT_30 : decode cX10_readsT 30 = .ok (.iconst 0, 1) := by decide +kernel
theorem dX10_readsT_31 : decode cX10_readsT 31 = .ok (.ireturn, 1) := by decide +kernel
theorem dX10_readsT_18 : decode cX10_readsT 18 = .ok (.aload_n 0, 1) := by decide +kernel
theorem dX10_readsT_19 : decode cX10_readsT 19 = .ok (.iload_n 1, 1) := by decide +kernel
theorem dX10_readsT_20 : decode cX10_readsT 20 = .ok (.invokevirtual 206, 3) := by decide +kernel
theorem dX10_readsT_23 : decode cX10_readsT 23 = .ok (.ifCond .eq 7, 3) := by decide +kernel
theorem dX10_readsT_26 : decode cX10_readsT 26 = .ok (.iconst 1, 1) := by decide +kernel
theorem dX10_readsT_27 : decode cX10_readsT 27 = .ok (.goto 4, 3) := by decide +kernel
def f_X10_readsT (d : MoV) (i : Int32) : Int32 × MoV := (let u_3 : Int32 × MoV := (f_X10_isSign d (97 : Int32)); (if u_3.1 = (0 : Int32) then (let u_8 : Int32 × MoV := (f_X10_isWord (mo13 u_3.2 (upd u_3.2.2.2.2.2.2.2.2.2.2.2.2.2.2.1 i.toNatClampNeg (114 : Int32))) 10); (if u_8.1 = (0 : Int32) then ((0 : Int32), u_8.2) else (let u_12 : Int32 × MoV := (f_X10_isPair u_8.2 i); (if u_12.1 = (0 : Int32) then ((0 : Int32), u_12.2) else ((1 : Int32), u_12.2))))) else (let u_16 : Int32 × MoV := (f_X10_isWord u_3.2 9); (if u_16.1 = (0 : Int32) then ((0 : Int32), u_16.2) else (let u_20 : Int32 × MoV := (f_X10_isPair u_16.2 i); (if u_20.1 = (0 : Int32) then ((0 : Int32), u_20.2) else ((1 : Int32), u_20.2)))))))
def ok_X10_readsT (d : MoV) (i : Int32) : Prop := (ok_X10_isSign d (97 : Int32) ∧ (let u_3 : Int32 × MoV := (f_X10_isSign d (97 : Int32)); (if u_3.1 = (0 : Int32) then (vp_in i 93 ∧ (ok_X10_isWord (mo13 u_3.2 (upd u_3.2.2.2.2.2.2.2.2.2.2.2.2.2.2.1 i.toNatClampNeg (114 : Int32))) 10 ∧ (let u_8 : Int32 × MoV := (f_X10_isWord (mo13 u_3.2 (upd u_3.2.2.2.2.2.2.2.2.2.2.2.2.2.2.1 i.toNatClampNeg (114 : Int32))) 10); (if u_8.1 = (0 : Int32) then True else (ok_X10_isPair u_8.2 i ∧ True))))) else (ok_X10_isWord u_3.2 9 ∧ (let u_16 : Int32 × MoV := (f_X10_isWord u_3.2 9); (if u_16.1 = (0 : Int32) then True else (ok_X10_isPair u_16.2 i ∧ True)))))))
set_option maxHeartbeats 4000000 in
set_option maxRecDepth 100000 in
theorem c_X10_readsT (l : Launch) (G : GG) (dh0 : Nat) (dh1 : Nat) (dh2 : Nat) (dh3 : Nat) (dh4 : Nat) (dh5 : Nat) (dh6 : Nat) (dh7 : Nat) (sz : Nat) (d : MoV) (i : Int32) (hok : ok_X10_readsT d i) : wMet l yX10_readsT cX10_readsT 2 (some .boolean) 6 0 0 G (fl [wMo G dh0 dh1 dh2 dh3 dh4 dh5 dh6 dh7 d]) [.ref dh0, .int i] sz (fun u : Int32 × MoV => some (.int u.1)) (fun u : Int32 × MoV => u = f_X10_readsT d i ∧ narrow .boolean (.int ((f_X10_readsT d i).1)) = .int ((f_X10_readsT d i).1)) (fun u : Int32 × MoV => fl [wMo G dh0 dh1 dh2 dh3 dh4 dh5 dh6 dh7 u.2]) := by
  refine w_start (by decide +kernel) (Nat.le_of_ble_eq_true rfl) ?_
  intro p e s m below meth c A hx hb hr hml hts hown hlk hin hP hD hA hK hST ls hl
  have hS : va_S A s.heap s.heap [] := va_S.rf
  have hown : s.vm.findClass RX10 = some m.cls := hown
  have hl : lv_has ls 2 [(0, .ref dh0), (1, .int i)] := hl
  have hF : f_X10_readsT d i = (let u_3 : Int32 × MoV := (f_X10_isSign d (97 : Int32)); (if u_3.1 = (0 : Int32) then (let u_8 : Int32 × MoV := (f_X10_isWord (mo13 u_3.2 (upd u_3.2.2.2.2.2.2.2.2.2.2.2.2.2.2.1 i.toNatClampNeg (114 : Int32))) 10); (if u_8.1 = (0 : Int32) then ((0 : Int32), u_8.2) else (let u_12 : Int32 × MoV := (f_X10_isPair u_8.2 i); (if u_12.1 = (0 : Int32) then ((0 : Int32), u_12.2) else ((1 : Int32), u_12.2))))) else (let u_16 : Int32 × MoV := (f_X10_isWord u_3.2 9); (if u_16.1 = (0 : Int32) then ((0 : Int32), u_16.2) else (let u_20 : Int32 × MoV := (f_X10_isPair u_16.2 i); (if u_20.1 = (0 : Int32) then ((0 : Int32), u_20.2) else ((1 : Int32), u_20.2))))))) := rfl
  have hok : (ok_X10_isSign d (97 : Int32) ∧ (let u_3 : Int32 × MoV := (f_X10_isSign d (97 : Int32)); (if u_3.1 = (0 : Int32) then (vp_in i 93 ∧ (ok_X10_isWord (mo13 u_3.2 (upd u_3.2.2.2.2.2.2.2.2.2.2.2.2.2.2.1 i.toNatClampNeg (114 : Int32))) 10 ∧ (let u_8 : Int32 × MoV := (f_X10_isWord (mo13 u_3.2 (upd u_3.2.2.2.2.2.2.2.2.2.2.2.2.2.2.1 i.toNatClampNeg (114 : Int32))) 10); (if u_8.1 = (0 : Int32) then True else (ok_X10_isPair u_8.2 i ∧ True))))) else (ok_X10_isWord u_3.2 9 ∧ (let u_16 : Int32 × MoV := (f_X10_isWord u_3.2 9); (if u_16.1 = (0 : Int32) then True else (ok_X10_isPair u_16.2 i ∧ True))))))) := hok
  refine lv_aload_n hx hb dX10_readsT_0 rfl (lv_at hl 0 rfl) ?_
  refine lv_bipush (v := (97 : Int32)) hx hb dX10_readsT_1 (by decide) ?_
  have k_1 := hok.1
  have hok := hok.2
  refine w_V (own := RX10) (cs := [wMo G dh0 dh1 dh2 dh3 dh4 dh5 dh6 dh7 d]) (rs := []) (As := [.int (97 : Int32)]) (rest := []) (c_X10_isSign l G dh0 dh1 dh2 dh3 dh4 dh5 dh6 dh7 s.heap.size d (97 : Int32) k_1) ⟨hx, hb, hml, hown, hts⟩ g_X10_194 hdv_X10_isSign hK hST hS hP hD hA [0] [] rfl rfl rfl (k0 := 0) rfl rfl rfl ⟨Nat.le_of_ble_eq_true rfl, Nat.le_of_ble_eq_true rfl⟩ ⟨Nat.le_of_ble_eq_true rfl, Nat.le_of_ble_eq_true rfl⟩ rfl hl.1 rfl (Nat.le_of_ble_eq_true rfl) dX10_readsT_3 (fun u_3 H locs huu hP hD hS => ?_)
  obtain ⟨huu, b_2⟩ := huu
  rw [← huu] at b_2
  have eu_3 := huu
  have hP : va_P G.1 vwCl (fl [wMo G dh0 dh1 dh2 dh3 dh4 dh5 dh6 dh7 u_3.2]) H := hP
  have hD : va_D A (fl [wMo G dh0 dh1 dh2 dh3 dh4 dh5 dh6 dh7 u_3.2]) := hD
  refine W.eq (g2 := F0 m 6 ls [.int u_3.1]) rfl ?_
  have hF : f_X10_readsT d i = (if u_3.1 = (0 : Int32) then (let u_8 : Int32 × MoV := (f_X10_isWord (mo13 u_3.2 (upd u_3.2.2.2.2.2.2.2.2.2.2.2.2.2.2.1 i.toNatClampNeg (114 : Int32))) 10); (if u_8.1 = (0 : Int32) then ((0 : Int32), u_8.2) else (let u_12 : Int32 × MoV := (f_X10_isPair u_8.2 i); (if u_12.1 = (0 : Int32) then ((0 : Int32), u_12.2) else ((1 : Int32), u_12.2))))) else (let u_16 : Int32 × MoV := (f_X10_isWord u_3.2 9); (if u_16.1 = (0 : Int32) then ((0 : Int32), u_16.2) else (let u_20 : Int32 × MoV := (f_X10_isPair u_16.2 i); (if u_20.1 = (0 : Int32) then ((0 : Int32), u_20.2) else ((1 : Int32), u_20.2)))))) := by subst eu_3; exact hF
  have hok : (if u_3.1 = (0 : Int32) then (vp_in i 93 ∧ (ok_X10_isWord (mo13 u_3.2 (upd u_3.2.2.2.2.2.2.2.2.2.2.2.2.2.2.1 i.toNatClampNeg (114 : Int32))) 10 ∧ (let u_8 : Int32 × MoV := (f_X10_isWord (mo13 u_3.2 (upd u_3.2.2.2.2.2.2.2.2.2.2.2.2.2.2.1 i.toNatClampNeg (114 : Int32))) 10); (if u_8.1 = (0 : Int32) then True else (ok_X10_isPair u_8.2 i ∧ True))))) else (ok_X10_isWord u_3.2 9 ∧ (let u_16 : Int32 × MoV := (f_X10_isWord u_3.2 9); (if u_16.1 = (0 : Int32) then True else (ok_X10_isPair u_16.2 i ∧ True))))) := by subst eu_3; exact hok
  refine lv_if_eq (tgt := 32) hx hb dX10_readsT_6 (by decide) (fun c_4 => ?_) (fun c_4 => ?_)
  · have hF := hF.trans (if_pos c_4)
    have hok := Eq.mp (if_pos c_4) hok
    refine lv_aload_n hx hb dX10_readsT_32 rfl (lv_at hl 0 rfl) ?_
    refine va_get (D := G.1) (ci := 12) (v := .ref dh7) (C := RX10) (T := TX10) (N := 17) hx hb hts uws_X10 hown hK hP 0 rfl rfl 13 (by decide) (hts _ u_1693) (fun _ h9 => h9) rfl dX10_readsT_33 ?_
    refine lv_iload_n hx hb dX10_readsT_36 rfl (lv_at hl 1 rfl) ?_
    refine lv_bipush (v := (114 : Int32)) hx hb dX10_readsT_37 (by decide) ?_
    have h_5 := hok.1
    have hok := hok.2
    refine va_iast hx hb hK hP hD hS 7 0 rfl rfl h_5 dX10_readsT_39 (fun H locs hP hD hS => ?_)
    have hP : va_P G.1 vwCl (fl [wMo G dh0 dh1 dh2 dh3 dh4 dh5 dh6 dh7 (mo13 u_3.2 (upd u_3.2.2.2.2.2.2.2.2.2.2.2.2.2.2.1 i.toNatClampNeg (114 : Int32)))]) H := hP
    have hD : va_D A (fl [wMo G dh0 dh1 dh2 dh3 dh4 dh5 dh6 dh7 (mo13 u_3.2 (upd u_3.2.2.2.2.2.2.2.2.2.2.2.2.2.2.1 i.toNatClampNeg (114 : Int32)))]) := hD
    refine lv_aload_n hx hb dX10_readsT_40 rfl (lv_at hl 0 rfl) ?_
    refine va_ldcS (own := RX10) (tx := "ry ") (q := G.2.2.1 (10 + 10)) hx hb hown (hST.str (by decide +kernel)) dX10_readsT_41 ?_
    have k_6 := hok.1
    have hok := hok.2
    refine w_V (own := RX10) (cs := [wMo G dh0 dh1 dh2 dh3 dh4 dh5 dh6 dh7 (mo13 u_3.2 (upd u_3.2.2.2.2.2.2.2.2.2.2.2.2.2.2.1 i.toNatClampNeg (114 : Int32)))]) (rs := []) (As := [.ref (G.2.2.1 (10 + 10))]) (rest := []) (c_X10_isWord l G dh0 dh1 dh2 dh3 dh4 dh5 dh6 dh7 H.size (mo13 u_3.2 (upd u_3.2.2.2.2.2.2.2.2.2.2.2.2.2.2.1 i.toNatClampNeg (114 : Int32))) 10 k_6 (by decide)) ⟨hx, hb, hml, hown, hts⟩ g_X10_202 hdv_X10_isWord hK hST hS hP hD hA [0] [] rfl rfl rfl (k0 := 0) rfl rfl rfl ⟨Nat.le_of_ble_eq_true rfl, Nat.le_of_ble_eq_true rfl⟩ ⟨Nat.le_of_ble_eq_true rfl, Nat.le_of_ble_eq_true rfl⟩ rfl hl.1 rfl (Nat.le_of_ble_eq_true rfl) dX10_readsT_43 (fun u_8 H locs huu hP hD hS => ?_)
    obtain ⟨huu, b_7⟩ := huu
    rw [← huu] at b_7
    have eu_8 := huu
    have hP : va_P G.1 vwCl (fl [wMo G dh0 dh1 dh2 dh3 dh4 dh5 dh6 dh7 u_8.2]) H := hP
    have hD : va_D A (fl [wMo G dh0 dh1 dh2 dh3 dh4 dh5 dh6 dh7 u_8.2]) := hD
    refine W.eq (g2 := F0 m 46 ls [.int u_8.1]) rfl ?_
    have hF : f_X10_readsT d i = (if u_8.1 = (0 : Int32) then ((0 : Int32), u_8.2) else (let u_12 : Int32 × MoV := (f_X10_isPair u_8.2 i); (if u_12.1 = (0 : Int32) then ((0 : Int32), u_12.2) else ((1 : Int32), u_12.2)))) := by subst eu_8; exact hF
    have hok : (if u_8.1 = (0 : Int32) then True else (ok_X10_isPair u_8.2 i ∧ True)) := by subst eu_8; exact hok
    refine lv_if_eq (tgt := 61) hx hb dX10_readsT_46 (by decide) (fun c_9 => ?_) (fun c_9 => ?_)
    · have hF := hF.trans (if_pos c_9)
      have hok := Eq.mp (if_pos c_9) hok
      refine lv_iconst (v := (0 : Int32)) hx hb dX10_readsT_61 (by decide) ?_
      exact w_ret (u := ((0 : Int32), u_8.2)) hx hb hr hlk rfl hS rfl ⟨hF.symm, (by rw [hF]; exact (rfl : narrow .boolean (.int (0 : Int32)) = .int (0 : Int32)))⟩ hP hD (Nat.le_of_ble_eq_true rfl) (Nat.le_of_ble_eq_true rfl) dX10_readsT_62
    · have hF := hF.trans (if_neg c_9)
      have hok := Eq.mp (if_neg c_9) hok
      refine lv_aload_n hx hb dX10_readsT_49 rfl (lv_at hl 0 rfl) ?_
      refine lv_iload_n hx hb dX10_readsT_50 rfl (lv_at hl 1 rfl) ?_
      have k_10 := hok.1
      have hok := hok.2
      refine w_V (own := RX10) (cs := [wMo G dh0 dh1 dh2 dh3 dh4 dh5 dh6 dh7 u_8.2]) (rs := []) (As := [.int i]) (rest := []) (c_X10_isPair l G dh0 dh1 dh2 dh3 dh4 dh5 dh6 dh7 H.size u_8.2 i k_10) ⟨hx, hb, hml, hown, hts⟩ g_X10_206 hdv_X10_isPair hK hST hS hP hD hA [0] [] rfl rfl rfl (k0 := 0) rfl rfl rfl ⟨Nat.le_of_ble_eq_true rfl, Nat.le_of_ble_eq_true rfl⟩ ⟨Nat.le_of_ble_eq_true rfl, Nat.le_of_ble_eq_true rfl⟩ rfl hl.1 rfl (Nat.le_of_ble_eq_true rfl) dX10_readsT_51 (fun u_12 H locs huu hP hD hS => ?_)
      obtain ⟨huu, b_11⟩ := huu
      rw [← huu] at b_11
      have eu_12 := huu
      have hP : va_P G.1 vwCl (fl [wMo G dh0 dh1 dh2 dh3 dh4 dh5 dh6 dh7 u_12.2]) H := hP
      have hD : va_D A (fl [wMo G dh0 dh1 dh2 dh3 dh4 dh5 dh6 dh7 u_12.2]) := hD
      refine W.eq (g2 := F0 m 54 ls [.int u_12.1]) rfl ?_
      have hF : f_X10_readsT d i = (if u_12.1 = (0 : Int32) then ((0 : Int32), u_12.2) else ((1 : Int32), u_12.2)) := by subst eu_12; exact hF
      refine lv_if_eq (tgt := 61) hx hb dX10_readsT_54 (by decide) (fun c_13 => ?_) (fun c_13 => ?_)
      · have hF := hF.trans (if_pos c_13)
        refine lv_iconst (v := (0 : Int32)) hx hb dX10_readsT_61 (by decide) ?_
        exact w_ret (u := ((0 : Int32), u_12.2)) hx hb hr hlk rfl hS rfl ⟨hF.symm, (by rw [hF]; exact (rfl : narrow .boolean (.int (0 : Int32)) = .int (0 : Int32)))⟩ hP hD (Nat.le_of_ble_eq_true rfl) (Nat.le_of_ble_eq_true rfl) dX10_readsT_62
      · have hF := hF.trans (if_neg c_13)
        refine lv_iconst (v := (1 : Int32)) hx hb dX10_readsT_57 (by decide) ?_
        refine lv_goto (tgt := 62) hx hb dX10_readsT_58 (by decide) ?_
        exact w_ret (u := ((1 : Int32), u_12.2)) hx hb hr hlk rfl hS rfl ⟨hF.symm, (by rw [hF]; exact (rfl : narrow .boolean (.int (1 : Int32)) = .int (1 : Int32)))⟩ hP hD (Nat.le_of_ble_eq_true rfl) (Nat.le_of_ble_eq_true rfl) dX10_readsT_62
  · have hF := hF.trans (if_neg c_4)
    have hok := Eq.mp (if_neg c_4) hok
    refine lv_aload_n hx hb dX10_readsT_9 rfl (lv_at hl 0 rfl) ?_
    refine va_ldcS (own := RX10) (tx := "ke ") (q := G.2.2.1 (10 + 9)) hx hb hown (hST.str (by decide +kernel)) dX10_readsT_10 ?_
    have k_14 := hok.1
    have hok := hok.2
    refine w_V (own := RX10) (cs := [wMo G dh0 dh1 dh2 dh3 dh4 dh5 dh6 dh7 u_3.2]) (rs := []) (As := [.ref (G.2.2.1 (10 + 9))]) (rest := []) (c_X10_isWord l G dh0 dh1 dh2 dh3 dh4 dh5 dh6 dh7 H.size u_3.2 9 k_14 (by decide)) ⟨hx, hb, hml, hown, hts⟩ g_X10_202 hdv_X10_isWord hK hST hS hP hD hA [0] [] rfl rfl rfl (k0 := 0) rfl rfl rfl ⟨Nat.le_of_ble_eq_true rfl, Nat.le_of_ble_eq_true rfl⟩ ⟨Nat.le_of_ble_eq_true rfl, Nat.le_of_ble_eq_true rfl⟩ rfl hl.1 rfl (Nat.le_of_ble_eq_true rfl) dX10_readsT_12 (fun u_16 H locs huu hP hD hS => ?_)
    obtain ⟨huu, b_15⟩ := huu
    rw [← huu] at b_15
    have eu_16 := huu
    have hP : va_P G.1 vwCl (fl [wMo G dh0 dh1 dh2 dh3 dh4 dh5 dh6 dh7 u_16.2]) H := hP
    have hD : va_D A (fl [wMo G dh0 dh1 dh2 dh3 dh4 dh5 dh6 dh7 u_16.2]) := hD
    refine W.eq (g2 := F0 m 15 ls [.int u_16.1]) rfl ?_
    have hF : f_X10_readsT d i = (if u_16.1 = (0 : Int32) then ((0 : Int32), u_16.2) else (let u_20 : Int32 × MoV := (f_X10_isPair u_16.2 i); (if u_20.1 = (0 : Int32) then ((0 : Int32), u_20.2) else ((1 : Int32), u_20.2)))) := by subst eu_16; exact hF
    have hok : (if u_16.1 = (0 : Int32) then True else (ok_X10_isPair u_16.2 i ∧ True)) := by subst eu_16; exact hok
    refine lv_if_eq (tgt := 30) hx hb dX10_readsT_15 (by decide) (fun c_17 => ?_) (fun c_17 => ?_)
    · have hF := hF.trans (if_pos c_17)
      have hok := Eq.mp (if_pos c_17) hok
      refine lv_iconst (v := (0 : Int32)) hx hb dX10_readsT_30 (by decide) ?_
      exact w_ret (u := ((0 : Int32), u_16.2)) hx hb hr hlk rfl hS rfl ⟨hF.symm, (by rw [hF]; exact (rfl : narrow .boolean (.int (0 : Int32)) = .int (0 : Int32)))⟩ hP hD (Nat.le_of_ble_eq_true rfl) (Nat.le_of_ble_eq_true rfl) dX10_readsT_31
    · have hF := hF.trans (if_neg c_17)
      have hok := Eq.mp (if_neg c_17) hok
      refine lv_aload_n hx hb dX10_readsT_18 rfl (lv_at hl 0 rfl) ?_
      refine lv_iload_n hx hb dX10_readsT_19 rfl (lv_at hl 1 rfl) ?_
      have k_18 := hok.1
      have hok := hok.2
      refine w_V (own := RX10) (cs := [wMo G dh0 dh1 dh2 dh3 dh4 dh5 dh6 dh7 u_16.2]) (rs := []) (As := [.int i]) (rest := []) (c_X10_isPair l G dh0 dh1 dh2 dh3 dh4 dh5 dh6 dh7 H.size u_16.2 i k_18) ⟨hx, hb, hml, hown, hts⟩ g_X10_206 hdv_X10_isPair hK hST hS hP hD hA [0] [] rfl rfl rfl (k0 := 0) rfl rfl rfl ⟨Nat.le_of_ble_eq_true rfl, Nat.le_of_ble_eq_true rfl⟩ ⟨Nat.le_of_ble_eq_true rfl, Nat.le_of_ble_eq_true rfl⟩ rfl hl.1 rfl (Nat.le_of_ble_eq_true rfl) dX10_readsT_20 (fun u_20 H locs huu hP hD hS => ?_)
      obtain ⟨huu, b_19⟩ := huu
      rw [← huu] at b_19
      have eu_20 := huu
      have hP : va_P G.1 vwCl (fl [wMo G dh0 dh1 dh2 dh3 dh4 dh5 dh6 dh7 u_20.2]) H := hP
      have hD : va_D A (fl [wMo G dh0 dh1 dh2 dh3 dh4 dh5 dh6 dh7 u_20.2]) := hD
      refine W.eq (g2 := F0 m 23 ls [.int u_20.1]) rfl ?_
      have hF : f_X10_readsT d i = (if u_20.1 = (0 : Int32) then ((0 : Int32), u_20.2) else ((1 : Int32), u_20.2)) := by subst eu_20; exact hF
      refine lv_if_eq (tgt := 30) hx hb dX10_readsT_23 (by decide) (fun c_21 => ?_) (fun c_21 => ?_)
      · have hF := hF.trans (if_pos c_21)
        refine lv_iconst (v := (0 : Int32)) hx hb dX10_readsT_30 (by decide) ?_
        exact w_ret (u := ((0 : Int32), u_20.2)) hx hb hr hlk rfl hS rfl ⟨hF.symm, (by rw [hF]; exact (rfl : narrow .boolean (.int (0 : Int32)) = .int (0 : Int32)))⟩ hP hD (Nat.le_of_ble_eq_true rfl) (Nat.le_of_ble_eq_true rfl) dX10_readsT_31
      · have hF := hF.trans (if_neg c_21)
        refine lv_iconst (v := (1 : Int32)) hx hb dX10_readsT_26 (by decide) ?_
        refine lv_goto (tgt := 31) hx hb dX10_readsT_27 (by decide) ?_
        exact w_ret (u := ((1 : Int32), u_20.2)) hx hb hr hlk rfl hS rfl ⟨hF.symm, (by rw [hF]; exact (rfl : narrow .boolean (.int (1 : Int32)) = .int (1 : Int32)))⟩ hP hD (Nat.le_of_ble_eq_true rfl) (Nat.le_of_ble_eq_true rfl) dX10_readsT_31
theorem dX10_readsRest_0 : decode cX10_readsRest 0 = .ok (.iload_n 1, 1) := by decide +kernel
theorem dX10_readsRest_1 : decode cX10_readsRest 1 = .ok (.tableswitch 195 103 116 #[71, 195, 195, 195, 195, 146, 169, 195, 100, 195, 195, 195, 123, 94], 71) := by decide +kernel
theorem dX10_readsRest_72 : decode cX10_readsRest 72 = .ok (.aload_n 0, 1) := by decide +kernel
theorem dX10_readsRest_73 : decode cX10_readsRest 73 = .ok (.ldc 211, 2) := by decide +kernel
theorem dX10_readsRest_75 : decode cX10_readsRest 75 = .ok (.invokevirtual 202, 3) := by decide +kernel
theorem dX10_readsRest_78 : decode cX10_readsRest 78 = .ok (.ifCond .eq 15, 3) := by decide +kernel
theorem dX10_readsRest_93 : decode cX10_readsRest 93 = .ok (.iconst 0, 1) := by decide +kernel
theorem dX10_readsRest_94 : decode cX10_readsRest 94 = .ok (.ireturn, 1) := by decide +kernel
theorem dX10_readsRest_81 : decode cX10_readsRest 81 = .ok (.aload_n 0, 1) := by decide +kernel
theorem dX10_readsRest_82 : decode cX10_readsRest 82 = .ok (.iload_n 2, 1) := by decide +kernel
theorem dX10_readsRest_83 : decode cX10_readsRest 83 = .ok (.invokevirtual 206, 3) := by decide +kernel
theorem dX10_readsRest_86 : decode cX10_readsRest 86 = .ok (.ifCond .eq 7, 3) := by decide +kernel
theorem dX10_readsRest_89 : decode cX10_readsRest 89 = .ok (.iconst 1, 1) := by decide +kernel
theorem dX10_readsRest_90 : decode cX10_readsRest 90 = .ok (.goto 4, 3) := by decide +kernel
theorem dX10_readsRest_196 : decode cX10_readsRest 196 = .ok (.aload_n 0, 1) := by decide +kernel
theorem dX10_readsRest_197 : decode cX10_readsRest 197 = .ok (.ldc 227, 2) := by decide +kernel
theorem dX10_readsRest_199 : decode cX10_readsRest 199 = .ok (.invokevirtual 202, 3) := by decide +kernel
theorem dX10_readsRest_202 : decode cX10_readsRest 202 = .ok (.ifCond .eq 18, 3) := by decide +kernel
theorem dX10_readsRest_220 : decode cX10_readsRest 220 = .ok (.iconst 0, 1) := by decide +kernel
theorem dX10_readsRest_221 : decode cX10_readsRest 221 = .ok (.ireturn, 1) := by decide +kernel
theorem dX10_readsRest_205 : decode cX10_readsRest 205 = .ok (.aload_n 0, 1) := by decide +kernel
theorem dX10_readsRest_206 : decode cX10_readsRest 206 = .ok (.iconst 3, 1) := by decide +kernel
theorem dX10_readsRest_207 : decode cX10_readsRest 207 = .ok (.iload_n 2, 1) := by decide +kernel
theorem dX10_readsRest_208 : decode cX10_readsRest 208 = .ok (.iconst 1, 1) := by decide +kernel
theorem dX10_readsRest_209 : decode cX10_readsRest 209 = .ok (.iadd, 1) := by decide +kernel
theorem dX10_readsRest_210 : decode cX10_readsRest 210 = .ok (.invokevirtual 197, 3) := by decide +kernel
theorem dX10_readsRest_213 : decode cX10_readsRest 213 = .ok (.ifCond .eq 7, 3) := by decide +kernel
theorem dX10_readsRest_216 : decode cX10_readsRest 216 = .ok (.iconst 1, 1) := by decide +kernel
theorem dX10_readsRest_217 : decode cX10_readsRest 217 = .ok (.goto 4, 3) := by decide +kernel
theorem dX10_readsRest_147 : decode cX10_readsRest 147 = .ok (.aload_n 0, 1) := by decide +kernel
theorem dX10_readsRest_148 : decode cX10_readsRest 148 = .ok (.ldc 223, 2) := by decide +kernel
theorem dX10_readsRest_150 : decode cX10_readsRest 150 = .ok (.invokevirtual 202, 3) := by decide +kernel
theorem dX10_readsRest_153 : decode cX10_readsRest 153 = .ok (.ifCond .eq 15, 3) := by decide +kernel
theorem dX10_readsRest_168 : decode cX10_readsRest 168 = .ok (.iconst 0, 1) := by decide +kernel
theorem dX10_readsRest_169 : decode cX10_readsRest 169 = .ok (.ireturn, 1) := by decide +kernel
theorem dX10_readsRest_156 : decode cX10_readsRest 156 = .ok (.aload_n 0, 1) := by decide +kernel
theorem dX10_readsRest_157 : decode cX10_readsRest 157 = .ok (.iload_n 2, 1) := by decide +kernel
theorem dX10_readsRest_158 : decode cX10_readsRest 158 = .ok (.invokevirtual 218, 3) := by decide +kernel
theorem u_2113 : Cond.methodLink RX10 218 yX10_isDoorDay ∈ UW := uw 2113 (by decide +kernel) rfl
theorem u_2115 : Cond.instanceMethod yX10_isDoorDay ∈ UW := uw 2115 (by decide +kernel) rfl
theorem u_62 : Cond.selects RX10 yX10_isDoorDay yX10_isDoorDay ∈ UW := uw 62 (by decide +kernel) rfl
theorem u_2116 : Cond.code yX10_isDoorDay cX10_isDoorDay 2 (some .boolean) ∈ UW := uw 2116 (by decide +kernel) rfl
theorem g_X10_218 : GoodIn UW (wsV RX10 218 RX10 yX10_isDoorDay (wsU yX10_isDoorDay cX10_isDoorDay 2 (some .boolean))) := gV u_2113 u_2115 u_62 u_77 u_2116
theorem hdv_X10_isDoorDay : yX10_isDoorDay.cls = RX10 ∧ yX10_isDoorDay.cls ≠ "java/lang/invoke/MethodHandle" ∧ yX10_isDoorDay.cls ≠ "java/lang/invoke/VarHandle" ∧ (parseMethodDescriptor yX10_isDoorDay.desc).map (fun d => d.parameters.length) = some 1 := by decide +kernel
theorem dX10_readsRest_161 : decode cX10_readsRest 161 = .ok (.ifCond .eq 7, 3) := by decide +kernel
theorem dX10_readsRest_164 : decode cX10_readsRest 164 = .ok (.iconst 1, 1) := by decide +kernel
theorem dX10_readsRest_165 : decode cX10_readsRest 165 = .ok (.goto 4, 3) := by decide +kernel
theorem dX10_readsRest_170 : decode cX10_readsRest 170 = .ok (.aload_n 0, 1) := by decide +kernel
theorem dX10_readsRest_171 : decode cX10_readsRest 171 = .ok (.ldc 225, 2) := by decide +kernel
theorem dX10_readsRest_173 : decode cX10_readsRest 173 = .ok (.invokevirtual 202, 3) := by decide +kernel
theorem dX10_readsRest_176 : decode cX10_readsRest 176 = .ok (.ifCond .eq 18, 3) := by decide +kernel
theorem dX10_readsRest_194 : decode cX10_readsRest 194 = .ok (.iconst 0, 1) := by decide +kernel
theorem dX10_readsRest_195 : decode cX10_readsRest 195 = .ok (.ireturn, 1) := by decide +kernel
theorem dX10_readsRest_179 : decode cX10_readsRest 179 = .ok (.aload_n 0, 1) := by decide +kernel
theorem dX10_readsRest_180 : decode cX10_readsRest 180 = .ok (.iconst 3, 1) := by decide +kernel
theorem dX10_readsRest_181 : decode cX10_readsRest 181 = .ok (.iload_n 2, 1) := by decide +kernel
theorem dX10_readsRest_182 : decode cX10_readsRest 182 = .ok (.iconst 1, 1) := by decide +kernel
theorem dX10_readsRest_183 : decode cX10_readsRest 183 = .ok (.iadd, 1) := by decide +kernel
theorem dX10_readsRest_184 : decode cX10_readsRest 184 = .ok (.invokevirtual 197, 3) := by decide +kernel
theorem dX10_readsRest_187 : decode cX10_readsRest 187 = .ok (.ifCond .eq 7, 3) := by decide +kernel
theorem dX10_readsRest_190 : decode cX10_readsRest 190 = .ok (.iconst 1, 1) := by decide +kernel
theorem dX10_readsRest_191 : decode cX10_readsRest 191 = .ok (.goto 4, 3) := by decide +kernel
theorem dX10_readsRest_101 : decode cX10_readsRest 101 = .ok (.aload_n 0, 1) := by decide +kernel
theorem dX10_readsRest_102 : decode cX10_readsRest 102 = .ok (.ldc 216, 2) := by decide +kernel
theorem dX10_readsRest_104 : decode cX10_readsRest 104 = .ok (.invokevirtual 202, 3) := by decide +kernel
theorem dX10_readsRest_107 : decode cX10_readsRest 107 = .ok (.ifCond .eq 15, 3) := by decide +kernel
theorem dX10_readsRest_122 : decode cX10_readsRest 122 = .ok (.iconst 0, 1) := by decide +kernel
theorem dX10_readsRest_123 : decode cX10_readsRest 123 = .ok (.ireturn, 1) := by decide +kernel
theorem dX10_readsRest_110 : decode cX10_readsRest 110 = .ok (.aload_n 0, 1) := by decide +kernel
theorem dX10_readsRest_111 : decode cX10_readsRest 111 = .ok (.iload_n 2, 1) := by decide +kernel
theorem dX10_readsRest_112 : decode cX10_readsRest 112 = .ok (.invokevirtual 218, 3) := by decide +kernel
theorem dX10_readsRest_115 : decode cX10_readsRest 115 = .ok (.ifCond .eq 7, 3) := by decide +kernel
theorem dX10_readsRest_118 : decode cX10_readsRest 118 = .ok (.iconst 1, 1) := by decide +kernel
theorem dX10_readsRest_119 : decode cX10_readsRest 119 = .ok (.goto 4, 3) := by decide +kernel
theorem dX10_readsRest_124 : decode cX10_readsRest 124 = .ok (.aload_n 0, 1) := by decide +kernel
theorem dX10_readsRest_125 : decode cX10_readsRest 125 = .ok (.ldc 221, 2) := by decide +kernel
theorem dX10_readsRest_127 : decode cX10_readsRest 127 = .ok (.invokevirtual 202, 3) := by decide +kernel
theorem dX10_readsRest_130 : decode cX10_readsRest 130 = .ok (.ifCond .eq 15, 3) := by decide +kernel
theorem dX10_readsRest_145 : decode cX10_readsRest 145 = .ok (.iconst 0, 1) := by decide +kernel
theorem dX10_readsRest_146 : decode cX10_readsRest 146 = .ok (.ireturn, 1) := by decide +kernel
theorem dX10_readsRest_133 : decode cX10_readsRest 133 = .ok (.aload_n 0, 1) := by decide +kernel
theorem dX10_readsRest_134 : decode cX10_readsRest 134 = .ok (.iload_n 2, 1) := by decide +kernel
theorem dX10_readsRest_135 : decode cX10_readsRest 135 = .ok (.invokevirtual 218, 3) := by decide +kernel
theorem dX10_readsRest_138 : decode cX10_readsRest 138 = .ok (.ifCond .eq 7, 3) := by decide +kernel
theorem dX10_readsRest_141 : decode cX10_readsRest 141 = .ok (.iconst 1, 1) := by decide +kernel
theorem dX10_readsRest_142 : decode cX10_readsRest 142 = .ok (.goto 4, 3) := by decide +kernel
theorem dX10_readsRest_95 : decode cX10_readsRest 95 = .ok (.aload_n 0, 1) := by decide +kernel
theorem dX10_readsRest_96 : decode cX10_readsRest 96 = .ok (.iload_n 2, 1) := by decide +kernel
theorem dX10_readsRest_97 : decode cX10_readsRest 97 = .ok (.invokevirtual 213, 3) := by decide +kernel
theorem u_2106 : Cond.methodLink RX10 213 yX10_readsT ∈ UW := uw 2106 (by decide +kernel) rfl
theorem u_2108 : Cond.instanceMethod yX10_readsT ∈ UW := uw 2108 (by decide +kernel) rfl
theorem u_61 : Cond.selects RX10 yX10_readsT yX10_readsT ∈ UW := uw 61 (by decide +kernel) rfl
theorem u_2109 : Cond.code yX10_readsT cX10_readsT 2 (some .boolean) ∈ UW := uw 2109 (by decide +kernel) rfl
theorem g_X10_213 : GoodIn UW (wsV RX10 213 RX10 yX10_readsT (wsU yX10_readsT cX10_readsT 2 (some .boolean))) := gV u_2106 u_2108 u_61 u_77 u_2109
theorem hdv_X10_readsT : yX10_readsT.cls = RX10 ∧ yX10_readsT.cls ≠ "java/lang/invoke/MethodHandle" ∧ yX10_readsT.cls ≠ "java/lang/invoke/VarHandle" ∧ (parseMethodDescriptor yX10_readsT.desc).map (fun d => d.parameters.length) = some 1 := by decide +kernel
theorem dX10_readsRest_100 : decode cX10_readsRest 100 = .ok (.ireturn, 1) := by decide +kernel
def f_X10_readsRest (d : MoV) (i : Int32) (j : Int32) : Int32 × MoV := (if i = (103 : Int32) then (let u_4 : Int32 × MoV := (f_X10_isWord d 8); (if u_4.1 = (0 : Int32) then ((0 : Int32), u_4.2) else (let u_8 : Int32 × MoV := (f_X10_isPair u_4.2 j); (if u_8.1 = (0 : Int32) then ((0 : Int32), u_8.2) else ((1 : Int32), u_8.2))))) else (if i = (104 : Int32) then (let u_13 : Int32 × MoV := (f_X10_isWord d 15); (if u_13.1 = (0 : Int32) then ((0 : Int32), u_13.2) else (let u_17 : Int32 × MoV := (f_X10_isNumber u_13.2 (3 : Int32) (j + (1 : Int32))); (if u_17.1 = (0 : Int32) then ((0 : Int32), u_17.2) else ((1 : Int32), u_17.2))))) else (if i = (105 : Int32) then (let u_22 : Int32 × MoV := (f_X10_isWord d 15); (if u_22.1 = (0 : Int32) then ((0 : Int32), u_22.2) else (let u_26 : Int32 × MoV := (f_X10_isNumber u_22.2 (3 : Int32) (j + (1 : Int32))); (if u_26.1 = (0 : Int32) then ((0 : Int32), u_26.2) else ((1 : Int32), u_26.2))))) else (if i = (106 : Int32) then (let u_31 : Int32 × MoV := (f_X10_isWord d 15); (if u_31.1 = (0 : Int32) then ((0 : Int32), u_31.2) else (let u_35 : Int32 × MoV := (f_X10_isNumber u_31.2 (3 : Int32) (j + (1 : Int32))); (if u_35.1 = (0 : Int32) then ((0 : Int32), u_35.2) else ((1 : Int32), u_35.2))))) else (if i = (107 : Int32) then (let u_40 : Int32 × MoV := (f_X10_isWord d 15); (if u_40.1 = (0 : Int32) then ((0 : Int32), u_40.2) else (let u_44 : Int32 × MoV := (f_X10_isNumber u_40.2 (3 : Int32) (j + (1 : Int32))); (if u_44.1 = (0 : Int32) then ((0 : Int32), u_44.2) else ((1 : Int32), u_44.2))))) else (if i = (108 : Int32) then (let u_49 : Int32 × MoV := (f_X10_isWord d 13); (if u_49.1 = (0 : Int32) then ((0 : Int32), u_49.2) else (let u_53 : Int32 × MoV := (f_X10_isDoorDay u_49.2 j); (if u_53.1 = (0 : Int32) then ((0 : Int32), u_53.2) else ((1 : Int32), u_53.2))))) else (if i = (109 : Int32) then (let u_58 : Int32 × MoV := (f_X10_isWord d 14); (if u_58.1 = (0 : Int32) then ((0 : Int32), u_58.2) else (let u_62 : Int32 × MoV := (f_X10_isNumber u_58.2 (3 : Int32) (j + (1 : Int32))); (if u_62.1 = (0 : Int32) then ((0 : Int32), u_62.2) else ((1 : Int32), u_62.2))))) else (if i = (110 : Int32) then (let u_67 : Int32 × MoV := (f_X10_isWord d 15); (if u_67.1 = (0 : Int32) then ((0 : Int32), u_67.2) else (let u_71 : Int32 × MoV := (f_X10_isNumber u_67.2 (3 : Int32) (j + (1 : Int32))); (if u_71.1 = (0 : Int32) then ((0 : Int32), u_71.2) else ((1 : Int32), u_71.2))))) else (if i = (111 : Int32) then (let u_76 : Int32 × MoV := (f_X10_isWord d 11); (if u_76.1 = (0 : Int32) then ((0 : Int32), u_76.2) else (let u_80 : Int32 × MoV := (f_X10_isDoorDay u_76.2 j); (if u_80.1 = (0 : Int32) then ((0 : Int32), u_80.2) else ((1 : Int32), u_80.2))))) else (if i = (112 : Int32) then (let u_85 : Int32 × MoV := (f_X10_isWord d 15); (if u_85.1 = (0 : Int32) then ((0 : Int32), u_85.2) else (let u_89 : Int32 × MoV := (f_X10_isNumber u_85.2 (3 : Int32) (j + (1 : Int32))); (if u_89.1 = (0 : Int32) then ((0 : Int32), u_89.2) else ((1 : Int32), u_89.2))))) else (if i = (113 : Int32) then (let u_94 : Int32 × MoV := (f_X10_isWord d 15); (if u_94.1 = (0 : Int32) then ((0 : Int32), u_94.2) else (let u_98 : Int32 × MoV := (f_X10_isNumber u_94.2 (3 : Int32) (j + (1 : Int32))); (if u_98.1 = (0 : Int32) then ((0 : Int32), u_98.2) else ((1 : Int32), u_98.2))))) else (if i = (114 : Int32) then (let u_103 : Int32 × MoV := (f_X10_isWord d 15); (if u_103.1 = (0 : Int32) then ((0 : Int32), u_103.2) else (let u_107 : Int32 × MoV := (f_X10_isNumber u_103.2 (3 : Int32) (j + (1 : Int32))); (if u_107.1 = (0 : Int32) then ((0 : Int32), u_107.2) else ((1 : Int32), u_107.2))))) else (if i = (115 : Int32) then (let u_112 : Int32 × MoV := (f_X10_isWord d 12); (if u_112.1 = (0 : Int32) then ((0 : Int32), u_112.2) else (let u_116 : Int32 × MoV := (f_X10_isDoorDay u_112.2 j); (if u_116.1 = (0 : Int32) then ((0 : Int32), u_116.2) else ((1 : Int32), u_116.2))))) else (if i = (116 : Int32) then (let u_121 : Int32 × MoV := (f_X10_readsT d j); (u_121.1, u_121.2)) else (let u_124 : Int32 × MoV := (f_X10_isWord d 15); (if u_124.1 = (0 : Int32) then ((0 : Int32), u_124.2) else (let u_128 : Int32 × MoV := (f_X10_isNumber u_124.2 (3 : Int32) (j + (1 : Int32))); (if u_128.1 = (0 : Int32) then ((0 : Int32), u_128.2) else ((1 : Int32), u_128.2)))))))))))))))))))
def ok_X10_readsRest (d : MoV) (i : Int32) (j : Int32) : Prop := (if i = (103 : Int32) then (ok_X10_isWord d 8 ∧ (let u_4 : Int32 × MoV := (f_X10_isWord d 8); (if u_4.1 = (0 : Int32) then True else (ok_X10_isPair u_4.2 j ∧ True)))) else (if i = (104 : Int32) then (ok_X10_isWord d 15 ∧ (let u_13 : Int32 × MoV := (f_X10_isWord d 15); (if u_13.1 = (0 : Int32) then True else (ok_X10_isNumber u_13.2 (3 : Int32) (j + (1 : Int32)) ∧ True)))) else (if i = (105 : Int32) then (ok_X10_isWord d 15 ∧ (let u_22 : Int32 × MoV := (f_X10_isWord d 15); (if u_22.1 = (0 : Int32) then True else (ok_X10_isNumber u_22.2 (3 : Int32) (j + (1 : Int32)) ∧ True)))) else (if i = (106 : Int32) then (ok_X10_isWord d 15 ∧ (let u_31 : Int32 × MoV := (f_X10_isWord d 15); (if u_31.1 = (0 : Int32) then True else (ok_X10_isNumber u_31.2 (3 : Int32) (j + (1 : Int32)) ∧ True)))) else (if i = (107 : Int32) then (ok_X10_isWord d 15 ∧ (let u_40 : Int32 × MoV := (f_X10_isWord d 15); (if u_40.1 = (0 : Int32) then True else (ok_X10_isNumber u_40.2 (3 : Int32) (j + (1 : Int32)) ∧ True)))) else (if i = (108 : Int32) then (ok_X10_isWord d 13 ∧ (let u_49 : Int32 × MoV := (f_X10_isWord d 13); (if u_49.1 = (0 : Int32) then True else (ok_X10_isDoorDay u_49.2 j ∧ True)))) else (if i = (109 : Int32) then (ok_X10_isWord d 14 ∧ (let u_58 : Int32 × MoV := (f_X10_isWord d 14); (if u_58.1 = (0 : Int32) then True else (ok_X10_isNumber u_58.2 (3 : Int32) (j + (1 : Int32)) ∧ True)))) else (if i = (110 : Int32) then (ok_X10_isWord d 15 ∧ (let u_67 : Int32 × MoV := (f_X10_isWord d 15); (if u_67.1 = (0 : Int32) then True else (ok_X10_isNumber u_67.2 (3 : Int32) (j + (1 : Int32)) ∧ True)))) else (if i = (111 : Int32) then (ok_X10_isWord d 11 ∧ (let u_76 : Int32 × MoV := (f_X10_isWord d 11); (if u_76.1 = (0 : Int32) then True else (ok_X10_isDoorDay u_76.2 j ∧ True)))) else (if i = (112 : Int32) then (ok_X10_isWord d 15 ∧ (let u_85 : Int32 × MoV := (f_X10_isWord d 15); (if u_85.1 = (0 : Int32) then True else (ok_X10_isNumber u_85.2 (3 : Int32) (j + (1 : Int32)) ∧ True)))) else (if i = (113 : Int32) then (ok_X10_isWord d 15 ∧ (let u_94 : Int32 × MoV := (f_X10_isWord d 15); (if u_94.1 = (0 : Int32) then True else (ok_X10_isNumber u_94.2 (3 : Int32) (j + (1 : Int32)) ∧ True)))) else (if i = (114 : Int32) then (ok_X10_isWord d 15 ∧ (let u_103 : Int32 × MoV := (f_X10_isWord d 15); (if u_103.1 = (0 : Int32) then True else (ok_X10_isNumber u_103.2 (3 : Int32) (j + (1 : Int32)) ∧ True)))) else (if i = (115 : Int32) then (ok_X10_isWord d 12 ∧ (let u_112 : Int32 × MoV := (f_X10_isWord d 12); (if u_112.1 = (0 : Int32) then True else (ok_X10_isDoorDay u_112.2 j ∧ True)))) else (if i = (116 : Int32) then (ok_X10_readsT d j ∧ True) else (ok_X10_isWord d 15 ∧ (let u_124 : Int32 × MoV := (f_X10_isWord d 15); (if u_124.1 = (0 : Int32) then True else (ok_X10_isNumber u_124.2 (3 : Int32) (j + (1 : Int32)) ∧ True))))))))))))))))))
set_option maxHeartbeats 4000000 in
set_option maxRecDepth 100000 in
theorem c_X10_readsRest (l : Launch) (G : GG) (dh0 : Nat) (dh1 : Nat) (dh2 : Nat) (dh3 : Nat) (dh4 : Nat) (dh5 : Nat) (dh6 : Nat) (dh7 : Nat) (sz : Nat) (d : MoV) (i : Int32) (j : Int32) (hok : ok_X10_readsRest d i j) : wMet l yX10_readsRest cX10_readsRest 3 (some .boolean) 7 0 0 G (fl [wMo G dh0 dh1 dh2 dh3 dh4 dh5 dh6 dh7 d]) [.ref dh0, .int i, .int j] sz (fun u : Int32 × MoV => some (.int u.1)) (fun u : Int32 × MoV => u = f_X10_readsRest d i j ∧ narrow .boolean (.int ((f_X10_readsRest d i j).1)) = .int ((f_X10_readsRest d i j).1)) (fun u : Int32 × MoV => fl [wMo G dh0 dh1 dh2 dh3 dh4 dh5 dh6 dh7 u.2]) := by
  refine w_start (by decide +kernel) (Nat.le_of_ble_eq_true rfl) ?_
  intro p e s m below meth c A hx hb hr hml hts hown hlk hin hP hD hA hK hST ls hl
  have hS : va_S A s.heap s.heap [] := va_S.rf
  have hown : s.vm.findClass RX10 = some m.cls := hown
  have hl : lv_has ls 3 [(0, .ref dh0), (1, .int i), (2, .int j)] := hl
  have hF : f_X10_readsRest d i j = (if i = (103 : Int32) then (let u_4 : Int32 × MoV := (f_X10_isWord d 8); (if u_4.1 = (0 : Int32) then ((0 : Int32), u_4.2) else (let u_8 : Int32 × MoV := (f_X10_isPair u_4.2 j); (if u_8.1 = (0 : Int32) then ((0 : Int32), u_8.2) else ((1 : Int32), u_8.2))))) else (if i = (104 : Int32) then (let u_13 : Int32 × MoV := (f_X10_isWord d 15); (if u_13.1 = (0 : Int32) then ((0 : Int32), u_13.2) else (let u_17 : Int32 × MoV := (f_X10_isNumber u_13.2 (3 : Int32) (j + (1 : Int32))); (if u_17.1 = (0 : Int32) then ((0 : Int32), u_17.2) else ((1 : Int32), u_17.2))))) else (if i = (105 : Int32) then (let u_22 : Int32 × MoV := (f_X10_isWord d 15); (if u_22.1 = (0 : Int32) then ((0 : Int32), u_22.2) else (let u_26 : Int32 × MoV := (f_X10_isNumber u_22.2 (3 : Int32) (j + (1 : Int32))); (if u_26.1 = (0 : Int32) then ((0 : Int32), u_26.2) else ((1 : Int32), u_26.2))))) else (if i = (106 : Int32) then (let u_31 : Int32 × MoV := (f_X10_isWord d 15); (if u_31.1 = (0 : Int32) then ((0 : Int32), u_31.2) else (let u_35 : Int32 × MoV := (f_X10_isNumber u_31.2 (3 : Int32) (j + (1 : Int32))); (if u_35.1 = (0 : Int32) then ((0 : Int32), u_35.2) else ((1 : Int32), u_35.2))))) else (if i = (107 : Int32) then (let u_40 : Int32 × MoV := (f_X10_isWord d 15); (if u_40.1 = (0 : Int32) then ((0 : Int32), u_40.2) else (let u_44 : Int32 × MoV := (f_X10_isNumber u_40.2 (3 : Int32) (j + (1 : Int32))); (if u_44.1 = (0 : Int32) then ((0 : Int32), u_44.2) else ((1 : Int32), u_44.2))))) else (if i = (108 : Int32) then (let u_49 : Int32 × MoV := (f_X10_isWord d 13); (if u_49.1 = (0 : Int32) then ((0 : Int32), u_49.2) else (let u_53 : Int32 × MoV := (f_X10_isDoorDay u_49.2 j); (if u_53.1 = (0 : Int32) then ((0 : Int32), u_53.2) else ((1 : Int32), u_53.2))))) else (if i = (109 : Int32) then (let u_58 : Int32 × MoV := (f_X10_isWord d 14); (if u_58.1 = (0 : Int32) then ((0 : Int32), u_58.2) else (let u_62 : Int32 × MoV := (f_X10_isNumber u_58.2 (3 : Int32) (j + (1 : Int32))); (if u_62.1 = (0 : Int32) then ((0 : Int32), u_62.2) else ((1 : Int32), u_62.2))))) else (if i = (110 : Int32) then (let u_67 : Int32 × MoV := (f_X10_isWord d 15); (if u_67.1 = (0 : Int32) then ((0 : Int32), u_67.2) else (let u_71 : Int32 × MoV := (f_X10_isNumber u_67.2 (3 : Int32) (j + (1 : Int32))); (if u_71.1 = (0 : Int32) then ((0 : Int32), u_71.2) else ((1 : Int32), u_71.2))))) else (if i = (111 : Int32) then (let u_76 : Int32 × MoV := (f_X10_isWord d 11); (if u_76.1 = (0 : Int32) then ((0 : Int32), u_76.2) else (let u_80 : Int32 × MoV := (f_X10_isDoorDay u_76.2 j); (if u_80.1 = (0 : Int32) then ((0 : Int32), u_80.2) else ((1 : Int32), u_80.2))))) else (if i = (112 : Int32) then (let u_85 : Int32 × MoV := (f_X10_isWord d 15); (if u_85.1 = (0 : Int32) then ((0 : Int32), u_85.2) else (let u_89 : Int32 × MoV := (f_X10_isNumber u_85.2 (3 : Int32) (j + (1 : Int32))); (if u_89.1 = (0 : Int32) then ((0 : Int32), u_89.2) else ((1 : Int32), u_89.2))))) else (if i = (113 : Int32) then (let u_94 : Int32 × MoV := (f_X10_isWord d 15); (if u_94.1 = (0 : Int32) then ((0 : Int32), u_94.2) else (let u_98 : Int32 × MoV := (f_X10_isNumber u_94.2 (3 : Int32) (j + (1 : Int32))); (if u_98.1 = (0 : Int32) then ((0 : Int32), u_98.2) else ((1 : Int32), u_98.2))))) else (if i = (114 : Int32) then (let u_103 : Int32 × MoV := (f_X10_isWord d 15); (if u_103.1 = (0 : Int32) then ((0 : Int32), u_103.2) else (let u_107 : Int32 × MoV := (f_X10_isNumber u_103.2 (3 : Int32) (j + (1 : Int32))); (if u_107.1 = (0 : Int32) then ((0 : Int32), u_107.2) else ((1 : Int32), u_107.2))))) else (if i = (115 : Int32) then (let u_112 : Int32 × MoV := (f_X10_isWord d 12); (if u_112.1 = (0 : Int32) then ((0 : Int32), u_112.2) else (let u_116 : Int32 × MoV := (f_X10_isDoorDay u_112.2 j); (if u_116.1 = (0 : Int32) then ((0 : Int32), u_116.2) else ((1 : Int32), u_116.2))))) else (if i = (116 : Int32) then (let u_121 : Int32 × MoV := (f_X10_readsT d j); (u_121.1, u_121.2)) else (let u_124 : Int32 × MoV := (f_X10_isWord d 15); (if u_124.1 = (0 : Int32) then ((0 : Int32), u_124.2) else (let u_128 : Int32 × MoV := (f_X10_isNumber u_124.2 (3 : Int32) (j + (1 : Int32))); (if u_128.1 = (0 : Int32) then ((0 : Int32), u_128.2) else ((1 : Int32), u_128.2))))))))))))))))))) := rfl
  have hok : (if i = (103 : Int32) then (ok_X10_isWord d 8 ∧ (let u_4 : Int32 × MoV := (f_X10_isWord d 8); (if u_4.1 = (0 : Int32) then True else (ok_X10_isPair u_4.2 j ∧ True)))) else (if i = (104 : Int32) then (ok_X10_isWord d 15 ∧ (let u_13 : Int32 × MoV := (f_X10_isWord d 15); (if u_13.1 = (0 : Int32) then True else (ok_X10_isNumber u_13.2 (3 : Int32) (j + (1 : Int32)) ∧ True)))) else (if i = (105 : Int32) then (ok_X10_isWord d 15 ∧ (let u_22 : Int32 × MoV := (f_X10_isWord d 15); (if u_22.1 = (0 : Int32) then True else (ok_X10_isNumber u_22.2 (3 : Int32) (j + (1 : Int32)) ∧ True)))) else (if i = (106 : Int32) then (ok_X10_isWord d 15 ∧ (let u_31 : Int32 × MoV := (f_X10_isWord d 15); (if u_31.1 = (0 : Int32) then True else (ok_X10_isNumber u_31.2 (3 : Int32) (j + (1 : Int32)) ∧ True)))) else (if i = (107 : Int32) then (ok_X10_isWord d 15 ∧ (let u_40 : Int32 × MoV := (f_X10_isWord d 15); (if u_40.1 = (0 : Int32) then True else (ok_X10_isNumber u_40.2 (3 : Int32) (j + (1 : Int32)) ∧ True)))) else (if i = (108 : Int32) then (ok_X10_isWord d 13 ∧ (let u_49 : Int32 × MoV := (f_X10_isWord d 13); (if u_49.1 = (0 : Int32) then True else (ok_X10_isDoorDay u_49.2 j ∧ True)))) else (if i = (109 : Int32) then (ok_X10_isWord d 14 ∧ (let u_58 : Int32 × MoV := (f_X10_isWord d 14); (if u_58.1 = (0 : Int32) then True else (ok_X10_isNumber u_58.2 (3 : Int32) (j + (1 : Int32)) ∧ True)))) else (if i = (110 : Int32) then (ok_X10_isWord d 15 ∧ (let u_67 : Int32 × MoV := (f_X10_isWord d 15); (if u_67.1 = (0 : Int32) then True else (ok_X10_isNumber u_67.2 (3 : Int32) (j + (1 : Int32)) ∧ True)))) else (if i = (111 : Int32) then (ok_X10_isWord d 11 ∧ (let u_76 : Int32 × MoV := (f_X10_isWord d 11); (if u_76.1 = (0 : Int32) then True else (ok_X10_isDoorDay u_76.2 j ∧ True)))) else (if i = (112 : Int32) then (ok_X10_isWord d 15 ∧ (let u_85 : Int32 × MoV := (f_X10_isWord d 15); (if u_85.1 = (0 : Int32) then True else (ok_X10_isNumber u_85.2 (3 : Int32) (j + (1 : Int32)) ∧ True)))) else (if i = (113 : Int32) then (ok_X10_isWord d 15 ∧ (let u_94 : Int32 × MoV := (f_X10_isWord d 15); (if u_94.1 = (0 : Int32) then True else (ok_X10_isNumber u_94.2 (3 : Int32) (j + (1 : Int32)) ∧ True)))) else (if i = (114 : Int32) then (ok_X10_isWord d 15 ∧ (let u_103 : Int32 × MoV := (f_X10_isWord d 15); (if u_103.1 = (0 : Int32) then True else (ok_X10_isNumber u_103.2 (3 : Int32) (j + (1 : Int32)) ∧ True)))) else (if i = (115 : Int32) then (ok_X10_isWord d 12 ∧ (let u_112 : Int32 × MoV := (f_X10_isWord d 12); (if u_112.1 = (0 : Int32) then True else (ok_X10_isDoorDay u_112.2 j ∧ True)))) else (if i = (116 : Int32) then (ok_X10_readsT d j ∧ True) else (ok_X10_isWord d 15 ∧ (let u_124 : Int32 × MoV := (f_X10_isWord d 15); (if u_124.1 = (0 : Int32) then True else (ok_X10_isNumber u_124.2 (3 : Int32) (j + (1 : Int32)) ∧ True)))))))))))))))))) := hok
  refine lv_iload_n hx hb dX10_readsRest_0 rfl (lv_at hl 1 rfl) ?_
  by_cases c_1 : i = (103 : Int32)
  · have hF := hF.trans (if_pos c_1)
    have hok := Eq.mp (if_pos c_1) hok
    refine lv_tableIn (off := 71) (tgt := 72) hx hb dX10_readsRest_1 (by rw [c_1]; decide) (by rw [c_1]; decide) (by rw [c_1]; rfl) (by decide) ?_
    refine lv_aload_n hx hb dX10_readsRest_72 rfl (lv_at hl 0 rfl) ?_
    refine va_ldcS (own := RX10) (tx := "ive ") (q := G.2.2.1 (10 + 8)) hx hb hown (hST.str (by decide +kernel)) dX10_readsRest_73 ?_
    have k_2 := hok.1
    have hok := hok.2
    refine w_V (own := RX10) (cs := [wMo G dh0 dh1 dh2 dh3 dh4 dh5 dh6 dh7 d]) (rs := []) (As := [.ref (G.2.2.1 (10 + 8))]) (rest := []) (c_X10_isWord l G dh0 dh1 dh2 dh3 dh4 dh5 dh6 dh7 s.heap.size d 8 k_2 (by decide)) ⟨hx, hb, hml, hown, hts⟩ g_X10_202 hdv_X10_isWord hK hST hS hP hD hA [0] [] rfl rfl rfl (k0 := 0) rfl rfl rfl ⟨Nat.le_of_ble_eq_true rfl, Nat.le_of_ble_eq_true rfl⟩ ⟨Nat.le_of_ble_eq_true rfl, Nat.le_of_ble_eq_true rfl⟩ rfl hl.1 rfl (Nat.le_of_ble_eq_true rfl) dX10_readsRest_75 (fun u_4 H locs huu hP hD hS => ?_)
    obtain ⟨huu, b_3⟩ := huu
    rw [← huu] at b_3
    have eu_4 := huu
    have hP : va_P G.1 vwCl (fl [wMo G dh0 dh1 dh2 dh3 dh4 dh5 dh6 dh7 u_4.2]) H := hP
    have hD : va_D A (fl [wMo G dh0 dh1 dh2 dh3 dh4 dh5 dh6 dh7 u_4.2]) := hD
    refine W.eq (g2 := F0 m 78 ls [.int u_4.1]) rfl ?_
    have hF : f_X10_readsRest d i j = (if u_4.1 = (0 : Int32) then ((0 : Int32), u_4.2) else (let u_8 : Int32 × MoV := (f_X10_isPair u_4.2 j); (if u_8.1 = (0 : Int32) then ((0 : Int32), u_8.2) else ((1 : Int32), u_8.2)))) := by subst eu_4; exact hF
    have hok : (if u_4.1 = (0 : Int32) then True else (ok_X10_isPair u_4.2 j ∧ True)) := by subst eu_4; exact hok
    refine lv_if_eq (tgt := 93) hx hb dX10_readsRest_78 (by decide) (fun c_5 => ?_) (fun c_5 => ?_)
    · have hF := hF.trans (if_pos c_5)
      have hok := Eq.mp (if_pos c_5) hok
      refine lv_iconst (v := (0 : Int32)) hx hb dX10_readsRest_93 (by decide) ?_
      exact w_ret (u := ((0 : Int32), u_4.2)) hx hb hr hlk rfl hS rfl ⟨hF.symm, (by rw [hF]; exact (rfl : narrow .boolean (.int (0 : Int32)) = .int (0 : Int32)))⟩ hP hD (Nat.le_of_ble_eq_true rfl) (Nat.le_of_ble_eq_true rfl) dX10_readsRest_94
    · have hF := hF.trans (if_neg c_5)
      have hok := Eq.mp (if_neg c_5) hok
      refine lv_aload_n hx hb dX10_readsRest_81 rfl (lv_at hl 0 rfl) ?_
      refine lv_iload_n hx hb dX10_readsRest_82 rfl (lv_at hl 2 rfl) ?_
      have k_6 := hok.1
      have hok := hok.2
      refine w_V (own := RX10) (cs := [wMo G dh0 dh1 dh2 dh3 dh4 dh5 dh6 dh7 u_4.2]) (rs := []) (As := [.int j]) (rest := []) (c_X10_isPair l G dh0 dh1 dh2 dh3 dh4 dh5 dh6 dh7 H.size u_4.2 j k_6) ⟨hx, hb, hml, hown, hts⟩ g_X10_206 hdv_X10_isPair hK hST hS hP hD hA [0] [] rfl rfl rfl (k0 := 0) rfl rfl rfl ⟨Nat.le_of_ble_eq_true rfl, Nat.le_of_ble_eq_true rfl⟩ ⟨Nat.le_of_ble_eq_true rfl, Nat.le_of_ble_eq_true rfl⟩ rfl hl.1 rfl (Nat.le_of_ble_eq_true rfl) dX10_readsRest_83 (fun u_8 H locs huu hP hD hS => ?_)
      obtain ⟨huu, b_7⟩ := huu
      rw [← huu] at b_7
      have eu_8 := huu
      have hP : va_P G.1 vwCl (fl [wMo G dh0 dh1 dh2 dh3 dh4 dh5 dh6 dh7 u_8.2]) H := hP
      have hD : va_D A (fl [wMo G dh0 dh1 dh2 dh3 dh4 dh5 dh6 dh7 u_8.2]) := hD
      refine W.eq (g2 := F0 m 86 ls [.int u_8.1]) rfl ?_
      have hF : f_X10_readsRest d i j = (if u_8.1 = (0 : Int32) then ((0 : Int32), u_8.2) else ((1 : Int32), u_8.2)) := by subst eu_8; exact hF
      refine lv_if_eq (tgt := 93) hx hb dX10_readsRest_86 (by decide) (fun c_9 => ?_) (fun c_9 => ?_)
      · have hF := hF.trans (if_pos c_9)
        refine lv_iconst (v := (0 : Int32)) hx hb dX10_readsRest_93 (by decide) ?_
        exact w_ret (u := ((0 : Int32), u_8.2)) hx hb hr hlk rfl hS rfl ⟨hF.symm, (by rw [hF]; exact (rfl : narrow .boolean (.int (0 : Int32)) = .int (0 : Int32)))⟩ hP hD (Nat.le_of_ble_eq_true rfl) (Nat.le_of_ble_eq_true rfl) dX10_readsRest_94
      · have hF := hF.trans (if_neg c_9)
        refine lv_iconst (v := (1 : Int32)) hx hb dX10_readsRest_89 (by decide) ?_
        refine lv_goto (tgt := 94) hx hb dX10_readsRest_90 (by decide) ?_
        exact w_ret (u := ((1 : Int32), u_8.2)) hx hb hr hlk rfl hS rfl ⟨hF.symm, (by rw [hF]; exact (rfl : narrow .boolean (.int (1 : Int32)) = .int (1 : Int32)))⟩ hP hD (Nat.le_of_ble_eq_true rfl) (Nat.le_of_ble_eq_true rfl) dX10_readsRest_94
  · have hF := hF.trans (if_neg c_1)
    have hok := Eq.mp (if_neg c_1) hok
    by_cases c_10 : i = (104 : Int32)
    · have hF := hF.trans (if_pos c_10)
      have hok := Eq.mp (if_pos c_10) hok
      refine lv_tableIn (off := 195) (tgt := 196) hx hb dX10_readsRest_1 (by rw [c_10]; decide) (by rw [c_10]; decide) (by rw [c_10]; rfl) (by decide) ?_
      refine lv_aload_n hx hb dX10_readsRest_196 rfl (lv_at hl 0 rfl) ?_
      refine va_ldcS (own := RX10) (tx := "ait ") (q := G.2.2.1 (10 + 15)) hx hb hown (hST.str (by decide +kernel)) dX10_readsRest_197 ?_
      have k_11 := hok.1
      have hok := hok.2
      refine w_V (own := RX10) (cs := [wMo G dh0 dh1 dh2 dh3 dh4 dh5 dh6 dh7 d]) (rs := []) (As := [.ref (G.2.2.1 (10 + 15))]) (rest := []) (c_X10_isWord l G dh0 dh1 dh2 dh3 dh4 dh5 dh6 dh7 s.heap.size d 15 k_11 (by decide)) ⟨hx, hb, hml, hown, hts⟩ g_X10_202 hdv_X10_isWord hK hST hS hP hD hA [0] [] rfl rfl rfl (k0 := 0) rfl rfl rfl ⟨Nat.le_of_ble_eq_true rfl, Nat.le_of_ble_eq_true rfl⟩ ⟨Nat.le_of_ble_eq_true rfl, Nat.le_of_ble_eq_true rfl⟩ rfl hl.1 rfl (Nat.le_of_ble_eq_true rfl) dX10_readsRest_199 (fun u_13 H locs huu hP hD hS => ?_)
      obtain ⟨huu, b_12⟩ := huu
      rw [← huu] at b_12
      have eu_13 := huu
      have hP : va_P G.1 vwCl (fl [wMo G dh0 dh1 dh2 dh3 dh4 dh5 dh6 dh7 u_13.2]) H := hP
      have hD : va_D A (fl [wMo G dh0 dh1 dh2 dh3 dh4 dh5 dh6 dh7 u_13.2]) := hD
      refine W.eq (g2 := F0 m 202 ls [.int u_13.1]) rfl ?_
      have hF : f_X10_readsRest d i j = (if u_13.1 = (0 : Int32) then ((0 : Int32), u_13.2) else (let u_17 : Int32 × MoV := (f_X10_isNumber u_13.2 (3 : Int32) (j + (1 : Int32))); (if u_17.1 = (0 : Int32) then ((0 : Int32), u_17.2) else ((1 : Int32), u_17.2)))) := by subst eu_13; exact hF
      have hok : (if u_13.1 = (0 : Int32) then True else (ok_X10_isNumber u_13.2 (3 : Int32) (j + (1 : Int32)) ∧ True)) := by subst eu_13; exact hok
      refine lv_if_eq (tgt := 220) hx hb dX10_readsRest_202 (by decide) (fun c_14 => ?_) (fun c_14 => ?_)
      · have hF := hF.trans (if_pos c_14)
        have hok := Eq.mp (if_pos c_14) hok
        refine lv_iconst (v := (0 : Int32)) hx hb dX10_readsRest_220 (by decide) ?_
        exact w_ret (u := ((0 : Int32), u_13.2)) hx hb hr hlk rfl hS rfl ⟨hF.symm, (by rw [hF]; exact (rfl : narrow .boolean (.int (0 : Int32)) = .int (0 : Int32)))⟩ hP hD (Nat.le_of_ble_eq_true rfl) (Nat.le_of_ble_eq_true rfl) dX10_readsRest_221
      · have hF := hF.trans (if_neg c_14)
        have hok := Eq.mp (if_neg c_14) hok
        refine lv_aload_n hx hb dX10_readsRest_205 rfl (lv_at hl 0 rfl) ?_
        refine lv_iconst (v := (3 : Int32)) hx hb dX10_readsRest_206 (by decide) ?_
        refine lv_iload_n hx hb dX10_readsRest_207 rfl (lv_at hl 2 rfl) ?_
        refine lv_iconst (v := (1 : Int32)) hx hb dX10_readsRest_208 (by decide) ?_
        refine lv_iadd hx hb dX10_readsRest_209 ?_
        have k_15 := hok.1
        have hok := hok.2
        refine w_V (own := RX10) (cs := [wMo G dh0 dh1 dh2 dh3 dh4 dh5 dh6 dh7 u_13.2]) (rs := []) (As := [.int (3 : Int32), .int (j + (1 : Int32))]) (rest := []) (c_X10_isNumber l G dh0 dh1 dh2 dh3 dh4 dh5 dh6 dh7 H.size u_13.2 (3 : Int32) (j + (1 : Int32)) k_15) ⟨hx, hb, hml, hown, hts⟩ g_X10_197 hdv_X10_isNumber hK hST hS hP hD hA [0] [] rfl rfl rfl (k0 := 0) rfl rfl rfl ⟨Nat.le_of_ble_eq_true rfl, Nat.le_of_ble_eq_true rfl⟩ ⟨Nat.le_of_ble_eq_true rfl, Nat.le_of_ble_eq_true rfl⟩ rfl hl.1 rfl (Nat.le_of_ble_eq_true rfl) dX10_readsRest_210 (fun u_17 H locs huu hP hD hS => ?_)
        obtain ⟨huu, b_16⟩ := huu
        rw [← huu] at b_16
        have eu_17 := huu
        have hP : va_P G.1 vwCl (fl [wMo G dh0 dh1 dh2 dh3 dh4 dh5 dh6 dh7 u_17.2]) H := hP
        have hD : va_D A (fl [wMo G dh0 dh1 dh2 dh3 dh4 dh5 dh6 dh7 u_17.2]) := hD
        refine W.eq (g2 := F0 m 213 ls [.int u_17.1]) rfl ?_
        have hF : f_X10_readsRest d i j = (if u_17.1 = (0 : Int32) then ((0 : Int32), u_17.2) else ((1 : Int32), u_17.2)) := by subst eu_17; exact hF
        refine lv_if_eq (tgt := 220) hx hb dX10_readsRest_213 (by decide) (fun c_18 => ?_) (fun c_18 => ?_)
        · have hF := hF.trans (if_pos c_18)
          refine lv_iconst (v := (0 : Int32)) hx hb dX10_readsRest_220 (by decide) ?_
          exact w_ret (u := ((0 : Int32), u_17.2)) hx hb hr hlk rfl hS rfl ⟨hF.symm, (by rw [hF]; exact (rfl : narrow .boolean (.int (0 : Int32)) = .int (0 : Int32)))⟩ hP hD (Nat.le_of_ble_eq_true rfl) (Nat.le_of_ble_eq_true rfl) dX10_readsRest_221
        · have hF := hF.trans (if_neg c_18)
          refine lv_iconst (v := (1 : Int32)) hx hb dX10_readsRest_216 (by decide) ?_
          refine lv_goto (tgt := 221) hx hb dX10_readsRest_217 (by decide) ?_
          exact w_ret (u := ((1 : Int32), u_17.2)) hx hb hr hlk rfl hS rfl ⟨hF.symm, (by rw [hF]; exact (rfl : narrow .boolean (.int (1 : Int32)) = .int (1 : Int32)))⟩ hP hD (Nat.le_of_ble_eq_true rfl) (Nat.le_of_ble_eq_true rfl) dX10_readsRest_221
    · have hF := hF.trans (if_neg c_10)
      have hok := Eq.mp (if_neg c_10) hok
      by_cases c_19 : i = (105 : Int32)
      · have hF := hF.trans (if_pos c_19)
        have hok := Eq.mp (if_pos c_19) hok
        refine lv_tableIn (off := 195) (tgt := 196) hx hb dX10_readsRest_1 (by rw [c_19]; decide) (by rw [c_19]; decide) (by rw [c_19]; rfl) (by decide) ?_
        refine lv_aload_n hx hb dX10_readsRest_196 rfl (lv_at hl 0 rfl) ?_
        refine va_ldcS (own := RX10) (tx := "ait ") (q := G.2.2.1 (10 + 15)) hx hb hown (hST.str (by decide +kernel)) dX10_readsRest_197 ?_
        have k_20 := hok.1
        have hok := hok.2
        refine w_V (own := RX10) (cs := [wMo G dh0 dh1 dh2 dh3 dh4 dh5 dh6 dh7 d]) (rs := []) (As := [.ref (G.2.2.1 (10 + 15))]) (rest := []) (c_X10_isWord l G dh0 dh1 dh2 dh3 dh4 dh5 dh6 dh7 s.heap.size d 15 k_20 (by decide)) ⟨hx, hb, hml, hown, hts⟩ g_X10_202 hdv_X10_isWord hK hST hS hP hD hA [0] [] rfl rfl rfl (k0 := 0) rfl rfl rfl ⟨Nat.le_of_ble_eq_true rfl, Nat.le_of_ble_eq_true rfl⟩ ⟨Nat.le_of_ble_eq_true rfl, Nat.le_of_ble_eq_true rfl⟩ rfl hl.1 rfl (Nat.le_of_ble_eq_true rfl) dX10_readsRest_199 (fun u_22 H locs huu hP hD hS => ?_)
        obtain ⟨huu, b_21⟩ := huu
        rw [← huu] at b_21
        have eu_22 := huu
        have hP : va_P G.1 vwCl (fl [wMo G dh0 dh1 dh2 dh3 dh4 dh5 dh6 dh7 u_22.2]) H := hP
        have hD : va_D A (fl [wMo G dh0 dh1 dh2 dh3 dh4 dh5 dh6 dh7 u_22.2]) := hD
        refine W.eq (g2 := F0 m 202 ls [.int u_22.1]) rfl ?_
        have hF : f_X10_readsRest d i j = (if u_22.1 = (0 : Int32) then ((0 : Int32), u_22.2) else (let u_26 : Int32 × MoV := (f_X10_isNumber u_22.2 (3 : Int32) (j + (1 : Int32))); (if u_26.1 = (0 : Int32) then ((0 : Int32), u_26.2) else ((1 : Int32), u_26.2)))) := by subst eu_22; exact hF
        have hok : (if u_22.1 = (0 : Int32) then True else (ok_X10_isNumber u_22.2 (3 : Int32) (j + (1 : Int32)) ∧ True)) := by subst eu_22; exact hok
        refine lv_if_eq (tgt := 220) hx hb dX10_readsRest_202 (by decide) (fun c_23 => ?_) (fun c_23 => ?_)
        · have hF := hF.trans (if_pos c_23)
          have hok := Eq.mp (if_pos c_23) hok
          refine lv_iconst (v := (0 : Int32)) hx hb dX10_readsRest_220 (by decide) ?_
          exact w_ret (u := ((0 : Int32), u_22.2)) hx hb hr hlk rfl hS rfl ⟨hF.symm, (by rw [hF]; exact (rfl : narrow .boolean (.int (0 : Int32)) = .int (0 : Int32)))⟩ hP hD (Nat.le_of_ble_eq_true rfl) (Nat.le_of_ble_eq_true rfl) dX10_readsRest_221
        · have hF := hF.trans (if_neg c_23)
          have hok := Eq.mp (if_neg c_23) hok
          refine lv_aload_n hx hb dX10_readsRest_205 rfl (lv_at hl 0 rfl) ?_
          refine lv_iconst (v := (3 : Int32)) hx hb dX10_readsRest_206 (by decide) ?_
          refine lv_iload_n hx hb dX10_readsRest_207 rfl (lv_at hl 2 rfl) ?_
          refine lv_iconst (v := (1 : Int32)) hx hb dX10_readsRest_208 (by decide) ?_
          refine lv_iadd hx hb dX10_readsRest_209 ?_
          have k_24 := hok.1
          have hok := hok.2
          refine w_V (own := RX10) (cs := [wMo G dh0 dh1 dh2 dh3 dh4 dh5 dh6 dh7 u_22.2]) (rs := []) (As := [.int (3 : Int32), .int (j + (1 : Int32))]) (rest := []) (c_X10_isNumber l G dh0 dh1 dh2 dh3 dh4 dh5 dh6 dh7 H.size u_22.2 (3 : Int32) (j + (1 : Int32)) k_24) ⟨hx, hb, hml, hown, hts⟩ g_X10_197 hdv_X10_isNumber hK hST hS hP hD hA [0] [] rfl rfl rfl (k0 := 0) rfl rfl rfl ⟨Nat.le_of_ble_eq_true rfl, Nat.le_of_ble_eq_true rfl⟩ ⟨Nat.le_of_ble_eq_true rfl, Nat.le_of_ble_eq_true rfl⟩ rfl hl.1 rfl (Nat.le_of_ble_eq_true rfl) dX10_readsRest_210 (fun u_26 H locs huu hP hD hS => ?_)
          obtain ⟨huu, b_25⟩ := huu
          rw [← huu] at b_25
          have eu_26 := huu
          have hP : va_P G.1 vwCl (fl [wMo G dh0 dh1 dh2 dh3 dh4 dh5 dh6 dh7 u_26.2]) H := hP
          have hD : va_D A (fl [wMo G dh0 dh1 dh2 dh3 dh4 dh5 dh6 dh7 u_26.2]) := hD
          refine W.eq (g2 := F0 m 213 ls [.int u_26.1]) rfl ?_
          have hF : f_X10_readsRest d i j = (if u_26.1 = (0 : Int32) then ((0 : Int32), u_26.2) else ((1 : Int32), u_26.2)) := by subst eu_26; exact hF
          refine lv_if_eq (tgt := 220) hx hb dX10_readsRest_213 (by decide) (fun c_27 => ?_) (fun c_27 => ?_)
          · have hF := hF.trans (if_pos c_27)
            refine lv_iconst (v := (0 : Int32)) hx hb dX10_readsRest_220 (by decide) ?_
            exact w_ret (u := ((0 : Int32), u_26.2)) hx hb hr hlk rfl hS rfl ⟨hF.symm, (by rw [hF]; exact (rfl : narrow .boolean (.int (0 : Int32)) = .int (0 : Int32)))⟩ hP hD (Nat.le_of_ble_eq_true rfl) (Nat.le_of_ble_eq_true rfl) dX10_readsRest_221
          · have hF := hF.trans (if_neg c_27)
            refine lv_iconst (v := (1 : Int32)) hx hb dX10_readsRest_216 (by decide) ?_
            refine lv_goto (tgt := 221) hx hb dX10_readsRest_217 (by decide) ?_
            exact w_ret (u := ((1 : Int32), u_26.2)) hx hb hr hlk rfl hS rfl ⟨hF.symm, (by rw [hF]; exact (rfl : narrow .boolean (.int (1 : Int32)) = .int (1 : Int32)))⟩ hP hD (Nat.le_of_ble_eq_true rfl) (Nat.le_of_ble_eq_true rfl) dX10_readsRest_221
      · have hF := hF.trans (if_neg c_19)
        have hok := Eq.mp (if_neg c_19) hok
        by_cases c_28 : i = (106 : Int32)
        · have hF := hF.trans (if_pos c_28)
          have hok := Eq.mp (if_pos c_28) hok
          refine lv_tableIn (off := 195) (tgt := 196) hx hb dX10_readsRest_1 (by rw [c_28]; decide) (by rw [c_28]; decide) (by rw [c_28]; rfl) (by decide) ?_
          refine lv_aload_n hx hb dX10_readsRest_196 rfl (lv_at hl 0 rfl) ?_
          refine va_ldcS (own := RX10) (tx := "ait ") (q := G.2.2.1 (10 + 15)) hx hb hown (hST.str (by decide +kernel)) dX10_readsRest_197 ?_
          have k_29 := hok.1
          have hok := hok.2
          refine w_V (own := RX10) (cs := [wMo G dh0 dh1 dh2 dh3 dh4 dh5 dh6 dh7 d]) (rs := []) (As := [.ref (G.2.2.1 (10 + 15))]) (rest := []) (c_X10_isWord l G dh0 dh1 dh2 dh3 dh4 dh5 dh6 dh7 s.heap.size d 15 k_29 (by decide)) ⟨hx, hb, hml, hown, hts⟩ g_X10_202 hdv_X10_isWord hK hST hS hP hD hA [0] [] rfl rfl rfl (k0 := 0) rfl rfl rfl ⟨Nat.le_of_ble_eq_true rfl, Nat.le_of_ble_eq_true rfl⟩ ⟨Nat.le_of_ble_eq_true rfl, Nat.le_of_ble_eq_true rfl⟩ rfl hl.1 rfl (Nat.le_of_ble_eq_true rfl) dX10_readsRest_199 (fun u_31 H locs huu hP hD hS => ?_)
          obtain ⟨huu, b_30⟩ := huu
          rw [← huu] at b_30
          have eu_31 := huu
          have hP : va_P G.1 vwCl (fl [wMo G dh0 dh1 dh2 dh3 dh4 dh5 dh6 dh7 u_31.2]) H := hP
          have hD : va_D A (fl [wMo G dh0 dh1 dh2 dh3 dh4 dh5 dh6 dh7 u_31.2]) := hD
          refine W.eq (g2 := F0 m 202 ls [.int u_31.1]) rfl ?_
          have hF : f_X10_readsRest d i j = (if u_31.1 = (0 : Int32) then ((0 : Int32), u_31.2) else (let u_35 : Int32 × MoV := (f_X10_isNumber u_31.2 (3 : Int32) (j + (1 : Int32))); (if u_35.1 = (0 : Int32) then ((0 : Int32), u_35.2) else ((1 : Int32), u_35.2)))) := by subst eu_31; exact hF
          have hok : (if u_31.1 = (0 : Int32) then True else (ok_X10_isNumber u_31.2 (3 : Int32) (j + (1 : Int32)) ∧ True)) := by subst eu_31; exact hok
          refine lv_if_eq (tgt := 220) hx hb dX10_readsRest_202 (by decide) (fun c_32 => ?_) (fun c_32 => ?_)
          · have hF := hF.trans (if_pos c_32)
            have hok := Eq.mp (if_pos c_32) hok
            refine lv_iconst (v := (0 : Int32)) hx hb dX10_readsRest_220 (by decide) ?_
            exact w_ret (u := ((0 : Int32), u_31.2)) hx hb hr hlk rfl hS rfl ⟨hF.symm, (by rw [hF]; exact (rfl : narrow .boolean (.int (0 : Int32)) = .int (0 : Int32)))⟩ hP hD (Nat.le_of_ble_eq_true rfl) (Nat.le_of_ble_eq_true rfl) dX10_readsRest_221
          · have hF := hF.trans (if_neg c_32)
            have hok := Eq.mp (if_neg c_32) hok
            refine lv_aload_n hx hb dX10_readsRest_205 rfl (lv_at hl 0 rfl) ?_
            refine lv_iconst (v := (3 : Int32)) hx hb dX10_readsRest_206 (by decide) ?_
            refine lv_iload_n hx hb dX10_readsRest_207 rfl (lv_at hl 2 rfl) ?_
            refine lv_iconst (v := (1 : Int32)) hx hb dX10_readsRest_208 (by decide) ?_
            refine lv_iadd hx hb dX10_readsRest_209 ?_
            have k_33 := hok.1
            have hok := hok.2
            refine w_V (own := RX10) (cs := [wMo G dh0 dh1 dh2 dh3 dh4 dh5 dh6 dh7 u_31.2]) (rs := []) (As := [.int (3 : Int32), .int (j + (1 : Int32))]) (rest := []) (c_X10_isNumber l G dh0 dh1 dh2 dh3 dh4 dh5 dh6 dh7 H.size u_31.2 (3 : Int32) (j + (1 : Int32)) k_33) ⟨hx, hb, hml, hown, hts⟩ g_X10_197 hdv_X10_isNumber hK hST hS hP hD hA [0] [] rfl rfl rfl (k0 := 0) rfl rfl rfl ⟨Nat.le_of_ble_eq_true rfl, Nat.le_of_ble_eq_true rfl⟩ ⟨Nat.le_of_ble_eq_true rfl, Nat.le_of_ble_eq_true rfl⟩ rfl hl.1 rfl (Nat.le_of_ble_eq_true rfl) dX10_readsRest_210 (fun u_35 H locs huu hP hD hS => ?_)
            obtain ⟨huu, b_34⟩ := huu
            rw [← huu] at b_34
            have eu_35 := huu
            have hP : va_P G.1 vwCl (fl [wMo G dh0 dh1 dh2 dh3 dh4 dh5 dh6 dh7 u_35.2]) H := hP
            have hD : va_D A (fl [wMo G dh0 dh1 dh2 dh3 dh4 dh5 dh6 dh7 u_35.2]) := hD
            refine W.eq (g2 := F0 m 213 ls [.int u_35.1]) rfl ?_
            have hF : f_X10_readsRest d i j = (if u_35.1 = (0 : Int32) then ((0 : Int32), u_35.2) else ((1 : Int32), u_35.2)) := by subst eu_35; exact hF
            refine lv_if_eq (tgt := 220) hx hb dX10_readsRest_213 (by decide) (fun c_36 => ?_) (fun c_36 => ?_)
            · have hF := hF.trans (if_pos c_36)
              refine lv_iconst (v := (0 : Int32)) hx hb dX10_readsRest_220 (by decide) ?_
              exact w_ret (u := ((0 : Int32), u_35.2)) hx hb hr hlk rfl hS rfl ⟨hF.symm, (by rw [hF]; exact (rfl : narrow .boolean (.int (0 : Int32)) = .int (0 : Int32)))⟩ hP hD (Nat.le_of_ble_eq_true rfl) (Nat.le_of_ble_eq_true rfl) dX10_readsRest_221
            · have hF := hF.trans (if_neg c_36)
              refine lv_iconst (v := (1 : Int32)) hx hb dX10_readsRest_216 (by decide) ?_
              refine lv_goto (tgt := 221) hx hb dX10_readsRest_217 (by decide) ?_
              exact w_ret (u := ((1 : Int32), u_35.2)) hx hb hr hlk rfl hS rfl ⟨hF.symm, (by rw [hF]; exact (rfl : narrow .boolean (.int (1 : Int32)) = .int (1 : Int32)))⟩ hP hD (Nat.le_of_ble_eq_true rfl) (Nat.le_of_ble_eq_true rfl) dX10_readsRest_221
        · have hF := hF.trans (if_neg c_28)
          have hok := Eq.mp (if_neg c_28) hok
          by_cases c_37 : i = (107 : Int32)
          · have hF := hF.trans (if_pos c_37)
            have hok := Eq.mp (if_pos c_37) hok
            refine lv_tableIn (off := 195) (tgt := 196) hx hb dX10_readsRest_1 (by rw [c_37]; decide) (by rw [c_37]; decide) (by rw [c_37]; rfl) (by decide) ?_
            refine lv_aload_n hx hb dX10_readsRest_196 rfl (lv_at hl 0 rfl) ?_
            refine va_ldcS (own := RX10) (tx := "ait ") (q := G.2.2.1 (10 + 15)) hx hb hown (hST.str (by decide +kernel)) dX10_readsRest_197 ?_
            have k_38 := hok.1
            have hok := hok.2
            refine w_V (own := RX10) (cs := [wMo G dh0 dh1 dh2 dh3 dh4 dh5 dh6 dh7 d]) (rs := []) (As := [.ref (G.2.2.1 (10 + 15))]) (rest := []) (c_X10_isWord l G dh0 dh1 dh2 dh3 dh4 dh5 dh6 dh7 s.heap.size d 15 k_38 (by decide)) ⟨hx, hb, hml, hown, hts⟩ g_X10_202 hdv_X10_isWord hK hST hS hP hD hA [0] [] rfl rfl rfl (k0 := 0) rfl rfl rfl ⟨Nat.le_of_ble_eq_true rfl, Nat.le_of_ble_eq_true rfl⟩ ⟨Nat.le_of_ble_eq_true rfl, Nat.le_of_ble_eq_true rfl⟩ rfl hl.1 rfl (Nat.le_of_ble_eq_true rfl) dX10_readsRest_199 (fun u_40 H locs huu hP hD hS => ?_)
            obtain ⟨huu, b_39⟩ := huu
            rw [← huu] at b_39
            have eu_40 := huu
            have hP : va_P G.1 vwCl (fl [wMo G dh0 dh1 dh2 dh3 dh4 dh5 dh6 dh7 u_40.2]) H := hP
            have hD : va_D A (fl [wMo G dh0 dh1 dh2 dh3 dh4 dh5 dh6 dh7 u_40.2]) := hD
            refine W.eq (g2 := F0 m 202 ls [.int u_40.1]) rfl ?_
            have hF : f_X10_readsRest d i j = (if u_40.1 = (0 : Int32) then ((0 : Int32), u_40.2) else (let u_44 : Int32 × MoV := (f_X10_isNumber u_40.2 (3 : Int32) (j + (1 : Int32))); (if u_44.1 = (0 : Int32) then ((0 : Int32), u_44.2) else ((1 : Int32), u_44.2)))) := by subst eu_40; exact hF
            have hok : (if u_40.1 = (0 : Int32) then True else (ok_X10_isNumber u_40.2 (3 : Int32) (j + (1 : Int32)) ∧ True)) := by subst eu_40; exact hok
            refine lv_if_eq (tgt := 220) hx hb dX10_readsRest_202 (by decide) (fun c_41 => ?_) (fun c_41 => ?_)
            · have hF := hF.trans (if_pos c_41)
              have hok := Eq.mp (if_pos c_41) hok
              refine lv_iconst (v := (0 : Int32)) hx hb dX10_readsRest_220 (by decide) ?_
              exact w_ret (u := ((0 : Int32), u_40.2)) hx hb hr hlk rfl hS rfl ⟨hF.symm, (by rw [hF]; exact (rfl : narrow .boolean (.int (0 : Int32)) = .int (0 : Int32)))⟩ hP hD (Nat.le_of_ble_eq_true rfl) (Nat.le_of_ble_eq_true rfl) dX10_readsRest_221
            · have hF := hF.trans (if_neg c_41)
              have hok := Eq.mp (if_neg c_41) hok
              refine lv_aload_n hx hb dX10_readsRest_205 rfl (lv_at hl 0 rfl) ?_
              refine lv_iconst (v := (3 : Int32)) hx hb dX10_readsRest_206 (by decide) ?_
              refine lv_iload_n hx hb dX10_readsRest_207 rfl (lv_at hl 2 rfl) ?_
              refine lv_iconst (v := (1 : Int32)) hx hb dX10_readsRest_208 (by decide) ?_
              refine lv_iadd hx hb dX10_readsRest_209 ?_
              have k_42 := hok.1
              have hok := hok.2
              refine w_V (own := RX10) (cs := [wMo G dh0 dh1 dh2 dh3 dh4 dh5 dh6 dh7 u_40.2]) (rs := []) (As := [.int (3 : Int32), .int (j + (1 : Int32))]) (rest := []) (c_X10_isNumber l G dh0 dh1 dh2 dh3 dh4 dh5 dh6 dh7 H.size u_40.2 (3 : Int32) (j + (1 : Int32)) k_42) ⟨hx, hb, hml, hown, hts⟩ g_X10_197 hdv_X10_isNumber hK hST hS hP hD hA [0] [] rfl rfl rfl (k0 := 0) rfl rfl rfl ⟨Nat.le_of_ble_eq_true rfl, Nat.le_of_ble_eq_true rfl⟩ ⟨Nat.le_of_ble_eq_true rfl, Nat.le_of_ble_eq_true rfl⟩ rfl hl.1 rfl (Nat.le_of_ble_eq_true rfl) dX10_readsRest_210 (fun u_44 H locs huu hP hD hS => ?_)
              obtain ⟨huu, b_43⟩ := huu
              rw [← huu] at b_43
              have eu_44 := huu
              have hP : va_P G.1 vwCl (fl [wMo G dh0 dh1 dh2 dh3 dh4 dh5 dh6 dh7 u_44.2]) H := hP
              have hD : va_D A (fl [wMo G dh0 dh1 dh2 dh3 dh4 dh5 dh6 dh7 u_44.2]) := hD
              refine W.eq (g2 := F0 m 213 ls [.int u_44.1]) rfl ?_
              have hF : f_X10_readsRest d i j = (if u_44.1 = (0 : Int32) then ((0 : Int32), u_44.2) else ((1 : Int32), u_44.2)) := by subst eu_44; exact hF
              refine lv_if_eq (tgt := 220) hx hb dX10_readsRest_213 (by decide) (fun c_45 => ?_) (fun c_45 => ?_)
              · have hF := hF.trans (if_pos c_45)
                refine lv_iconst (v := (0 : Int32)) hx hb dX10_readsRest_220 (by decide) ?_
                exact w_ret (u := ((0 : Int32), u_44.2)) hx hb hr hlk rfl hS rfl ⟨hF.symm, (by rw [hF]; exact (rfl : narrow .boolean (.int (0 : Int32)) = .int (0 : Int32)))⟩ hP hD (Nat.le_of_ble_eq_true rfl) (Nat.le_of_ble_eq_true rfl) dX10_readsRest_221
              · have hF := hF.trans (if_neg c_45)
                refine lv_iconst (v := (1 : Int32)) hx hb dX10_readsRest_216 (by decide) ?_
                refine lv_goto (tgt := 221) hx hb dX10_readsRest_217 (by decide) ?_
                exact w_ret (u := ((1 : Int32), u_44.2)) hx hb hr hlk rfl hS rfl ⟨hF.symm, (by rw [hF]; exact (rfl : narrow .boolean (.int (1 : Int32)) = .int (1 : Int32)))⟩ hP hD (Nat.le_of_ble_eq_true rfl) (Nat.le_of_ble_eq_true rfl) dX10_readsRest_221
          · have hF := hF.trans (if_neg c_37)
            have hok := Eq.mp (if_neg c_37) hok
            by_cases c_46 : i = (108 : Int32)
            · have hF := hF.trans (if_pos c_46)
              have hok := Eq.mp (if_pos c_46) hok
              refine lv_tableIn (off := 146) (tgt := 147) hx hb dX10_readsRest_1 (by rw [c_46]; decide) (by rw [c_46]; decide) (by rw [c_46]; rfl) (by decide) ?_
              refine lv_aload_n hx hb dX10_readsRest_147 rfl (lv_at hl 0 rfl) ?_
              refine va_ldcS (own := RX10) (tx := "ift ") (q := G.2.2.1 (10 + 13)) hx hb hown (hST.str (by decide +kernel)) dX10_readsRest_148 ?_
              have k_47 := hok.1
              have hok := hok.2
              refine w_V (own := RX10) (cs := [wMo G dh0 dh1 dh2 dh3 dh4 dh5 dh6 dh7 d]) (rs := []) (As := [.ref (G.2.2.1 (10 + 13))]) (rest := []) (c_X10_isWord l G dh0 dh1 dh2 dh3 dh4 dh5 dh6 dh7 s.heap.size d 13 k_47 (by decide)) ⟨hx, hb, hml, hown, hts⟩ g_X10_202 hdv_X10_isWord hK hST hS hP hD hA [0] [] rfl rfl rfl (k0 := 0) rfl rfl rfl ⟨Nat.le_of_ble_eq_true rfl, Nat.le_of_ble_eq_true rfl⟩ ⟨Nat.le_of_ble_eq_true rfl, Nat.le_of_ble_eq_true rfl⟩ rfl hl.1 rfl (Nat.le_of_ble_eq_true rfl) dX10_readsRest_150 (fun u_49 H locs huu hP hD hS => ?_)
              obtain ⟨huu, b_48⟩ := huu
              rw [← huu] at b_48
              have eu_49 := huu
              have hP : va_P G.1 vwCl (fl [wMo G dh0 dh1 dh2 dh3 dh4 dh5 dh6 dh7 u_49.2]) H := hP
              have hD : va_D A (fl [wMo G dh0 dh1 dh2 dh3 dh4 dh5 dh6 dh7 u_49.2]) := hD
              refine W.eq (g2 := F0 m 153 ls [.int u_49.1]) rfl ?_
              have hF : f_X10_readsRest d i j = (if u_49.1 = (0 : Int32) then ((0 : Int32), u_49.2) else (let u_53 : Int32 × MoV := (f_X10_isDoorDay u_49.2 j); (if u_53.1 = (0 : Int32) then ((0 : Int32), u_53.2) else ((1 : Int32), u_53.2)))) := by subst eu_49; exact hF
              have hok : (if u_49.1 = (0 : Int32) then True else (ok_X10_isDoorDay u_49.2 j ∧ True)) := by subst eu_49; exact hok
              refine lv_if_eq (tgt := 168) hx hb dX10_readsRest_153 (by decide) (fun c_50 => ?_) (fun c_50 => ?_)
              · have hF := hF.trans (if_pos c_50)
                have hok := Eq.mp (if_pos c_50) hok
                refine lv_iconst (v := (0 : Int32)) hx hb dX10_readsRest_168 (by decide) ?_
                exact w_ret (u := ((0 : Int32), u_49.2)) hx hb hr hlk rfl hS rfl ⟨hF.symm, (by rw [hF]; exact (rfl : narrow .boolean (.int (0 : Int32)) = .int (0 : Int32)))⟩ hP hD (Nat.le_of_ble_eq_true rfl) (Nat.le_of_ble_eq_true rfl) dX10_readsRest_169
              · have hF := hF.trans (if_neg c_50)
                have hok := Eq.mp (if_neg c_50) hok
                refine lv_aload_n hx hb dX10_readsRest_156 rfl (lv_at hl 0 rfl) ?_
                refine lv_iload_n hx hb dX10_readsRest_157 rfl (lv_at hl 2 rfl) ?_
                have k_51 := hok.1
                have hok := hok.2
                refine w_V (own := RX10) (cs := [wMo G dh0 dh1 dh2 dh3 dh4 dh5 dh6 dh7 u_49.2]) (rs := []) (As := [.int j]) (rest := []) (c_X10_isDoorDay l G dh0 dh1 dh2 dh3 dh4 dh5 dh6 dh7 H.size u_49.2 j k_51) ⟨hx, hb, hml, hown, hts⟩ g_X10_218 hdv_X10_isDoorDay hK hST hS hP hD hA [0] [] rfl rfl rfl (k0 := 0) rfl rfl rfl ⟨Nat.le_of_ble_eq_true rfl, Nat.le_of_ble_eq_true rfl⟩ ⟨Nat.le_of_ble_eq_true rfl, Nat.le_of_ble_eq_true rfl⟩ rfl hl.1 rfl (Nat.le_of_ble_eq_true rfl) dX10_readsRest_158 (fun u_53 H locs huu hP hD hS => ?_)
                obtain ⟨huu, b_52⟩ := huu
                rw [← huu] at b_52
                have eu_53 := huu
                have hP : va_P G.1 vwCl (fl [wMo G dh0 dh1 dh2 dh3 dh4 dh5 dh6 dh7 u_53.2]) H := hP
                have hD : va_D A (fl [wMo G dh0 dh1 dh2 dh3 dh4 dh5 dh6 dh7 u_53.2]) := hD
                refine W.eq (g2 := F0 m 161 ls [.int u_53.1]) rfl ?_
                have hF : f_X10_readsRest d i j = (if u_53.1 = (0 : Int32) then ((0 : Int32), u_53.2) else ((1 : Int32), u_53.2)) := by subst eu_53; exact hF
                refine lv_if_eq (tgt := 168) hx hb dX10_readsRest_161 (by decide) (fun c_54 => ?_) (fun c_54 => ?_)
                · have hF := hF.trans (if_pos c_54)
                  refine lv_iconst (v := (0 : Int32)) hx hb dX10_readsRest_168 (by decide) ?_
                  exact w_ret (u := ((0 : Int32), u_53.2)) hx hb hr hlk rfl hS rfl ⟨hF.symm, (by rw [hF]; exact (rfl : narrow .boolean (.int (0 : Int32)) = .int (0 : Int32)))⟩ hP hD (Nat.le_of_ble_eq_true rfl) (Nat.le_of_ble_eq_true rfl) dX10_readsRest_169
                · have hF := hF.trans (if_neg c_54)
                  refine lv_iconst (v := (1 : Int32)) hx hb dX10_readsRest_164 (by decide) ?_
                  refine lv_goto (tgt := 169) hx hb dX10_readsRest_165 (by decide) ?_
                  exact w_ret (u := ((1 : Int32), u_53.2)) hx hb hr hlk rfl hS rfl ⟨hF.symm, (by rw [hF]; exact (rfl : narrow .boolean (.int (1 : Int32)) = .int (1 : Int32)))⟩ hP hD (Nat.le_of_ble_eq_true rfl) (Nat.le_of_ble_eq_true rfl) dX10_readsRest_169
            · have hF := hF.trans (if_neg c_46)
              have hok := Eq.mp (if_neg c_46) hok
              by_cases c_55 : i = (109 : Int32)
              · have hF := hF.trans (if_pos c_55)
                have hok := Eq.mp (if_pos c_55) hok
                refine lv_tableIn (off := 169) (tgt := 170) hx hb dX10_readsRest_1 (by rw [c_55]; decide) (by rw [c_55]; decide) (by rw [c_55]; rfl) (by decide) ?_
                refine lv_aload_n hx hb dX10_readsRest_170 rfl (lv_at hl 0 rfl) ?_
                refine va_ldcS (own := RX10) (tx := "oon ") (q := G.2.2.1 (10 + 14)) hx hb hown (hST.str (by decide +kernel)) dX10_readsRest_171 ?_
                have k_56 := hok.1
                have hok := hok.2
                refine w_V (own := RX10) (cs := [wMo G dh0 dh1 dh2 dh3 dh4 dh5 dh6 dh7 d]) (rs := []) (As := [.ref (G.2.2.1 (10 + 14))]) (rest := []) (c_X10_isWord l G dh0 dh1 dh2 dh3 dh4 dh5 dh6 dh7 s.heap.size d 14 k_56 (by decide)) ⟨hx, hb, hml, hown, hts⟩ g_X10_202 hdv_X10_isWord hK hST hS hP hD hA [0] [] rfl rfl rfl (k0 := 0) rfl rfl rfl ⟨Nat.le_of_ble_eq_true rfl, Nat.le_of_ble_eq_true rfl⟩ ⟨Nat.le_of_ble_eq_true rfl, Nat.le_of_ble_eq_true rfl⟩ rfl hl.1 rfl (Nat.le_of_ble_eq_true rfl) dX10_readsRest_173 (fun u_58 H locs huu hP hD hS => ?_)
                obtain ⟨huu, b_57⟩ := huu
                rw [← huu] at b_57
                have eu_58 := huu
                have hP : va_P G.1 vwCl (fl [wMo G dh0 dh1 dh2 dh3 dh4 dh5 dh6 dh7 u_58.2]) H := hP
                have hD : va_D A (fl [wMo G dh0 dh1 dh2 dh3 dh4 dh5 dh6 dh7 u_58.2]) := hD
                refine W.eq (g2 := F0 m 176 ls [.int u_58.1]) rfl ?_
                have hF : f_X10_readsRest d i j = (if u_58.1 = (0 : Int32) then ((0 : Int32), u_58.2) else (let u_62 : Int32 × MoV := (f_X10_isNumber u_58.2 (3 : Int32) (j + (1 : Int32))); (if u_62.1 = (0 : Int32) then ((0 : Int32), u_62.2) else ((1 : Int32), u_62.2)))) := by subst eu_58; exact hF
                have hok : (if u_58.1 = (0 : Int32) then True else (ok_X10_isNumber u_58.2 (3 : Int32) (j + (1 : Int32)) ∧ True)) := by subst eu_58; exact hok
                refine lv_if_eq (tgt := 194) hx hb dX10_readsRest_176 (by decide) (fun c_59 => ?_) (fun c_59 => ?_)
                · have hF := hF.trans (if_pos c_59)
                  have hok := Eq.mp (if_pos c_59) hok
                  refine lv_iconst (v := (0 : Int32)) hx hb dX10_readsRest_194 (by decide) ?_
                  exact w_ret (u := ((0 : Int32), u_58.2)) hx hb hr hlk rfl hS rfl ⟨hF.symm, (by rw [hF]; exact (rfl : narrow .boolean (.int (0 : Int32)) = .int (0 : Int32)))⟩ hP hD (Nat.le_of_ble_eq_true rfl) (Nat.le_of_ble_eq_true rfl) dX10_readsRest_195
                · have hF := hF.trans (if_neg c_59)
                  have hok := Eq.mp (if_neg c_59) hok
                  refine lv_aload_n hx hb dX10_readsRest_179 rfl (lv_at hl 0 rfl) ?_
                  refine lv_iconst (v := (3 : Int32)) hx hb dX10_readsRest_180 (by decide) ?_
                  refine lv_iload_n hx hb dX10_readsRest_181 rfl (lv_at hl 2 rfl) ?_
                  refine lv_iconst (v := (1 : Int32)) hx hb dX10_readsRest_182 (by decide) ?_
                  refine lv_iadd hx hb dX10_readsRest_183 ?_
                  have k_60 := hok.1
                  have hok := hok.2
                  refine w_V (own := RX10) (cs := [wMo G dh0 dh1 dh2 dh3 dh4 dh5 dh6 dh7 u_58.2]) (rs := []) (As := [.int (3 : Int32), .int (j + (1 : Int32))]) (rest := []) (c_X10_isNumber l G dh0 dh1 dh2 dh3 dh4 dh5 dh6 dh7 H.size u_58.2 (3 : Int32) (j + (1 : Int32)) k_60) ⟨hx, hb, hml, hown, hts⟩ g_X10_197 hdv_X10_isNumber hK hST hS hP hD hA [0] [] rfl rfl rfl (k0 := 0) rfl rfl rfl ⟨Nat.le_of_ble_eq_true rfl, Nat.le_of_ble_eq_true rfl⟩ ⟨Nat.le_of_ble_eq_true rfl, Nat.le_of_ble_eq_true rfl⟩ rfl hl.1 rfl (Nat.le_of_ble_eq_true rfl) dX10_readsRest_184 (fun u_62 H locs huu hP hD hS => ?_)
                  obtain ⟨huu, b_61⟩ := huu
                  rw [← huu] at b_61
                  have eu_62 := huu
                  have hP : va_P G.1 vwCl (fl [wMo G dh0 dh1 dh2 dh3 dh4 dh5 dh6 dh7 u_62.2]) H := hP
                  have hD : va_D A (fl [wMo G dh0 dh1 dh2 dh3 dh4 dh5 dh6 dh7 u_62.2]) := hD
                  refine W.eq (g2 := F0 m 187 ls [.int u_62.1]) rfl ?_
                  have hF : f_X10_readsRest d i j = (if u_62.1 = (0 : Int32) then ((0 : Int32), u_62.2) else ((1 : Int32), u_62.2)) := by subst eu_62; exact hF
                  refine lv_if_eq (tgt := 194) hx hb dX10_readsRest_187 (by decide) (fun c_63 => ?_) (fun c_63 => ?_)
                  · have hF := hF.trans (if_pos c_63)
                    refine lv_iconst (v := (0 : Int32)) hx hb dX10_readsRest_194 (by decide) ?_
                    exact w_ret (u := ((0 : Int32), u_62.2)) hx hb hr hlk rfl hS rfl ⟨hF.symm, (by rw [hF]; exact (rfl : narrow .boolean (.int (0 : Int32)) = .int (0 : Int32)))⟩ hP hD (Nat.le_of_ble_eq_true rfl) (Nat.le_of_ble_eq_true rfl) dX10_readsRest_195
                  · have hF := hF.trans (if_neg c_63)
                    refine lv_iconst (v := (1 : Int32)) hx hb dX10_readsRest_190 (by decide) ?_
                    refine lv_goto (tgt := 195) hx hb dX10_readsRest_191 (by decide) ?_
                    exact w_ret (u := ((1 : Int32), u_62.2)) hx hb hr hlk rfl hS rfl ⟨hF.symm, (by rw [hF]; exact (rfl : narrow .boolean (.int (1 : Int32)) = .int (1 : Int32)))⟩ hP hD (Nat.le_of_ble_eq_true rfl) (Nat.le_of_ble_eq_true rfl) dX10_readsRest_195
              · have hF := hF.trans (if_neg c_55)
                have hok := Eq.mp (if_neg c_55) hok
                by_cases c_64 : i = (110 : Int32)
                · have hF := hF.trans (if_pos c_64)
                  have hok := Eq.mp (if_pos c_64) hok
                  refine lv_tableIn (off := 195) (tgt := 196) hx hb dX10_readsRest_1 (by rw [c_64]; decide) (by rw [c_64]; decide) (by rw [c_64]; rfl) (by decide) ?_
                  refine lv_aload_n hx hb dX10_readsRest_196 rfl (lv_at hl 0 rfl) ?_
                  refine va_ldcS (own := RX10) (tx := "ait ") (q := G.2.2.1 (10 + 15)) hx hb hown (hST.str (by decide +kernel)) dX10_readsRest_197 ?_
                  have k_65 := hok.1
                  have hok := hok.2
                  refine w_V (own := RX10) (cs := [wMo G dh0 dh1 dh2 dh3 dh4 dh5 dh6 dh7 d]) (rs := []) (As := [.ref (G.2.2.1 (10 + 15))]) (rest := []) (c_X10_isWord l G dh0 dh1 dh2 dh3 dh4 dh5 dh6 dh7 s.heap.size d 15 k_65 (by decide)) ⟨hx, hb, hml, hown, hts⟩ g_X10_202 hdv_X10_isWord hK hST hS hP hD hA [0] [] rfl rfl rfl (k0 := 0) rfl rfl rfl ⟨Nat.le_of_ble_eq_true rfl, Nat.le_of_ble_eq_true rfl⟩ ⟨Nat.le_of_ble_eq_true rfl, Nat.le_of_ble_eq_true rfl⟩ rfl hl.1 rfl (Nat.le_of_ble_eq_true rfl) dX10_readsRest_199 (fun u_67 H locs huu hP hD hS => ?_)
                  obtain ⟨huu, b_66⟩ := huu
                  rw [← huu] at b_66
                  have eu_67 := huu
                  have hP : va_P G.1 vwCl (fl [wMo G dh0 dh1 dh2 dh3 dh4 dh5 dh6 dh7 u_67.2]) H := hP
                  have hD : va_D A (fl [wMo G dh0 dh1 dh2 dh3 dh4 dh5 dh6 dh7 u_67.2]) := hD
                  refine W.eq (g2 := F0 m 202 ls [.int u_67.1]) rfl ?_
                  have hF : f_X10_readsRest d i j = (if u_67.1 = (0 : Int32) then ((0 : Int32), u_67.2) else (let u_71 : Int32 × MoV := (f_X10_isNumber u_67.2 (3 : Int32) (j + (1 : Int32))); (if u_71.1 = (0 : Int32) then ((0 : Int32), u_71.2) else ((1 : Int32), u_71.2)))) := by subst eu_67; exact hF
                  have hok : (if u_67.1 = (0 : Int32) then True else (ok_X10_isNumber u_67.2 (3 : Int32) (j + (1 : Int32)) ∧ True)) := by subst eu_67; exact hok
                  refine lv_if_eq (tgt := 220) hx hb dX10_readsRest_202 (by decide) (fun c_68 => ?_) (fun c_68 => ?_)
                  · have hF := hF.trans (if_pos c_68)
                    have hok := Eq.mp (if_pos c_68) hok
                    refine lv_iconst (v := (0 : Int32)) hx hb dX10_readsRest_220 (by decide) ?_
                    exact w_ret (u := ((0 : Int32), u_67.2)) hx hb hr hlk rfl hS rfl ⟨hF.symm, (by rw [hF]; exact (rfl : narrow .boolean (.int (0 : Int32)) = .int (0 : Int32)))⟩ hP hD (Nat.le_of_ble_eq_true rfl) (Nat.le_of_ble_eq_true rfl) dX10_readsRest_221
                  · have hF := hF.trans (if_neg c_68)
                    have hok := Eq.mp (if_neg c_68) hok
                    refine lv_aload_n hx hb dX10_readsRest_205 rfl (lv_at hl 0 rfl) ?_
                    refine lv_iconst (v := (3 : Int32)) hx hb dX10_readsRest_206 (by decide) ?_
                    refine lv_iload_n hx hb dX10_readsRest_207 rfl (lv_at hl 2 rfl) ?_
                    refine lv_iconst (v := (1 : Int32)) hx hb dX10_readsRest_208 (by decide) ?_
                    refine lv_iadd hx hb dX10_readsRest_209 ?_
                    have k_69 := hok.1
                    have hok := hok.2
                    refine w_V (own := RX10) (cs := [wMo G dh0 dh1 dh2 dh3 dh4 dh5 dh6 dh7 u_67.2]) (rs := []) (As := [.int (3 : Int32), .int (j + (1 : Int32))]) (rest := []) (c_X10_isNumber l G dh0 dh1 dh2 dh3 dh4 dh5 dh6 dh7 H.size u_67.2 (3 : Int32) (j + (1 : Int32)) k_69) ⟨hx, hb, hml, hown, hts⟩ g_X10_197 hdv_X10_isNumber hK hST hS hP hD hA [0] [] rfl rfl rfl (k0 := 0) rfl rfl rfl ⟨Nat.le_of_ble_eq_true rfl, Nat.le_of_ble_eq_true rfl⟩ ⟨Nat.le_of_ble_eq_true rfl, Nat.le_of_ble_eq_true rfl⟩ rfl hl.1 rfl (Nat.le_of_ble_eq_true rfl) dX10_readsRest_210 (fun u_71 H locs huu hP hD hS => ?_)
                    obtain ⟨huu, b_70⟩ := huu
                    rw [← huu] at b_70
                    have eu_71 := huu
                    have hP : va_P G.1 vwCl (fl [wMo G dh0 dh1 dh2 dh3 dh4 dh5 dh6 dh7 u_71.2]) H := hP
                    have hD : va_D A (fl [wMo G dh0 dh1 dh2 dh3 dh4 dh5 dh6 dh7 u_71.2]) := hD
                    refine W.eq (g2 := F0 m 213 ls [.int u_71.1]) rfl ?_
                    have hF : f_X10_readsRest d i j = (if u_71.1 = (0 : Int32) then ((0 : Int32), u_71.2) else ((1 : Int32), u_71.2)) := by subst eu_71; exact hF
                    refine lv_if_eq (tgt := 220) hx hb dX10_readsRest_213 (by decide) (fun c_72 => ?_) (fun c_72 => ?_)
                    · have hF := hF.trans (if_pos c_72)
                      refine lv_iconst (v := (0 : Int32)) hx hb dX10_readsRest_220 (by decide) ?_
                      exact w_ret (u := ((0 : Int32), u_71.2)) hx hb hr hlk rfl hS rfl ⟨hF.symm, (by rw [hF]; exact (rfl : narrow .boolean (.int (0 : Int32)) = .int (0 : Int32)))⟩ hP hD (Nat.le_of_ble_eq_true rfl) (Nat.le_of_ble_eq_true rfl) dX10_readsRest_221
                    · have hF := hF.trans (if_neg c_72)
                      refine lv_iconst (v := (1 : Int32)) hx hb dX10_readsRest_216 (by decide) ?_
                      refine lv_goto (tgt := 221) hx hb dX10_readsRest_217 (by decide) ?_
                      exact w_ret (u := ((1 : Int32), u_71.2)) hx hb hr hlk rfl hS rfl ⟨hF.symm, (by rw [hF]; exact (rfl : narrow .boolean (.int (1 : Int32)) = .int (1 : Int32)))⟩ hP hD (Nat.le_of_ble_eq_true rfl) (Nat.le_of_ble_eq_true rfl) dX10_readsRest_221
                · have hF := hF.trans (if_neg c_64)
                  have hok := Eq.mp (if_neg c_64) hok
                  by_cases c_73 : i = (111 : Int32)
                  · have hF := hF.trans (if_pos c_73)
                    have hok := Eq.mp (if_pos c_73) hok
                    refine lv_tableIn (off := 100) (tgt := 101) hx hb dX10_readsRest_1 (by rw [c_73]; decide) (by rw [c_73]; decide) (by rw [c_73]; rfl) (by decide) ?_
                    refine lv_aload_n hx hb dX10_readsRest_101 rfl (lv_at hl 0 rfl) ?_
                    refine va_ldcS (own := RX10) (tx := "pen ") (q := G.2.2.1 (10 + 11)) hx hb hown (hST.str (by decide +kernel)) dX10_readsRest_102 ?_
                    have k_74 := hok.1
                    have hok := hok.2
                    refine w_V (own := RX10) (cs := [wMo G dh0 dh1 dh2 dh3 dh4 dh5 dh6 dh7 d]) (rs := []) (As := [.ref (G.2.2.1 (10 + 11))]) (rest := []) (c_X10_isWord l G dh0 dh1 dh2 dh3 dh4 dh5 dh6 dh7 s.heap.size d 11 k_74 (by decide)) ⟨hx, hb, hml, hown, hts⟩ g_X10_202 hdv_X10_isWord hK hST hS hP hD hA [0] [] rfl rfl rfl (k0 := 0) rfl rfl rfl ⟨Nat.le_of_ble_eq_true rfl, Nat.le_of_ble_eq_true rfl⟩ ⟨Nat.le_of_ble_eq_true rfl, Nat.le_of_ble_eq_true rfl⟩ rfl hl.1 rfl (Nat.le_of_ble_eq_true rfl) dX10_readsRest_104 (fun u_76 H locs huu hP hD hS => ?_)
                    obtain ⟨huu, b_75⟩ := huu
                    rw [← huu] at b_75
                    have eu_76 := huu
                    have hP : va_P G.1 vwCl (fl [wMo G dh0 dh1 dh2 dh3 dh4 dh5 dh6 dh7 u_76.2]) H := hP
                    have hD : va_D A (fl [wMo G dh0 dh1 dh2 dh3 dh4 dh5 dh6 dh7 u_76.2]) := hD
                    refine W.eq (g2 := F0 m 107 ls [.int u_76.1]) rfl ?_
                    have hF : f_X10_readsRest d i j = (if u_76.1 = (0 : Int32) then ((0 : Int32), u_76.2) else (let u_80 : Int32 × MoV := (f_X10_isDoorDay u_76.2 j); (if u_80.1 = (0 : Int32) then ((0 : Int32), u_80.2) else ((1 : Int32), u_80.2)))) := by subst eu_76; exact hF
                    have hok : (if u_76.1 = (0 : Int32) then True else (ok_X10_isDoorDay u_76.2 j ∧ True)) := by subst eu_76; exact hok
                    refine lv_if_eq (tgt := 122) hx hb dX10_readsRest_107 (by decide) (fun c_77 => ?_) (fun c_77 => ?_)
                    · have hF := hF.trans (if_pos c_77)
                      have hok := Eq.mp (if_pos c_77) hok
                      refine lv_iconst (v := (0 : Int32)) hx hb dX10_readsRest_122 (by decide) ?_
                      exact w_ret (u := ((0 : Int32), u_76.2)) hx hb hr hlk rfl hS rfl ⟨hF.symm, (by rw [hF]; exact (rfl : narrow .boolean (.int (0 : Int32)) = .int (0 : Int32)))⟩ hP hD (Nat.le_of_ble_eq_true rfl) (Nat.le_of_ble_eq_true rfl) dX10_readsRest_123
                    · have hF := hF.trans (if_neg c_77)
                      have hok := Eq.mp (if_neg c_77) hok
                      refine lv_aload_n hx hb dX10_readsRest_110 rfl (lv_at hl 0 rfl) ?_
                      refine lv_iload_n hx hb dX10_readsRest_111 rfl (lv_at hl 2 rfl) ?_
                      have k_78 := hok.1
                      have hok := hok.2
                      refine w_V (own := RX10) (cs := [wMo G dh0 dh1 dh2 dh3 dh4 dh5 dh6 dh7 u_76.2]) (rs := []) (As := [.int j]) (rest := []) (c_X10_isDoorDay l G dh0 dh1 dh2 dh3 dh4 dh5 dh6 dh7 H.size u_76.2 j k_78) ⟨hx, hb, hml, hown, hts⟩ g_X10_218 hdv_X10_isDoorDay hK hST hS hP hD hA [0] [] rfl rfl rfl (k0 := 0) rfl rfl rfl ⟨Nat.le_of_ble_eq_true rfl, Nat.le_of_ble_eq_true rfl⟩ ⟨Nat.le_of_ble_eq_true rfl, Nat.le_of_ble_eq_true rfl⟩ rfl hl.1 rfl (Nat.le_of_ble_eq_true rfl) dX10_readsRest_112 (fun u_80 H locs huu hP hD hS => ?_)
                      obtain ⟨huu, b_79⟩ := huu
                      rw [← huu] at b_79
                      have eu_80 := huu
                      have hP : va_P G.1 vwCl (fl [wMo G dh0 dh1 dh2 dh3 dh4 dh5 dh6 dh7 u_80.2]) H := hP
                      have hD : va_D A (fl [wMo G dh0 dh1 dh2 dh3 dh4 dh5 dh6 dh7 u_80.2]) := hD
                      refine W.eq (g2 := F0 m 115 ls [.int u_80.1]) rfl ?_
                      have hF : f_X10_readsRest d i j = (if u_80.1 = (0 : Int32) then ((0 : Int32), u_80.2) else ((1 : Int32), u_80.2)) := by subst eu_80; exact hF
                      refine lv_if_eq (tgt := 122) hx hb dX10_readsRest_115 (by decide) (fun c_81 => ?_) (fun c_81 => ?_)
                      · have hF := hF.trans (if_pos c_81)
                        refine lv_iconst (v := (0 : Int32)) hx hb dX10_readsRest_122 (by decide) ?_
                        exact w_ret (u := ((0 : Int32), u_80.2)) hx hb hr hlk rfl hS rfl ⟨hF.symm, (by rw [hF]; exact (rfl : narrow .boolean (.int (0 : Int32)) = .int (0 : Int32)))⟩ hP hD (Nat.le_of_ble_eq_true rfl) (Nat.le_of_ble_eq_true rfl) dX10_readsRest_123
                      · have hF := hF.trans (if_neg c_81)
                        refine lv_iconst (v := (1 : Int32)) hx hb dX10_readsRest_118 (by decide) ?_
                        refine lv_goto (tgt := 123) hx hb dX10_readsRest_119 (by decide) ?_
                        exact w_ret (u := ((1 : Int32), u_80.2)) hx hb hr hlk rfl hS rfl ⟨hF.symm, (by rw [hF]; exact (rfl : narrow .boolean (.int (1 : Int32)) = .int (1 : Int32)))⟩ hP hD (Nat.le_of_ble_eq_true rfl) (Nat.le_of_ble_eq_true rfl) dX10_readsRest_123
                  · have hF := hF.trans (if_neg c_73)
                    have hok := Eq.mp (if_neg c_73) hok
                    by_cases c_82 : i = (112 : Int32)
                    · have hF := hF.trans (if_pos c_82)
                      have hok := Eq.mp (if_pos c_82) hok
                      refine lv_tableIn (off := 195) (tgt := 196) hx hb dX10_readsRest_1 (by rw [c_82]; decide) (by rw [c_82]; decide) (by rw [c_82]; rfl) (by decide) ?_
                      refine lv_aload_n hx hb dX10_readsRest_196 rfl (lv_at hl 0 rfl) ?_
                      refine va_ldcS (own := RX10) (tx := "ait ") (q := G.2.2.1 (10 + 15)) hx hb hown (hST.str (by decide +kernel)) dX10_readsRest_197 ?_
                      have k_83 := hok.1
                      have hok := hok.2
                      refine w_V (own := RX10) (cs := [wMo G dh0 dh1 dh2 dh3 dh4 dh5 dh6 dh7 d]) (rs := []) (As := [.ref (G.2.2.1 (10 + 15))]) (rest := []) (c_X10_isWord l G dh0 dh1 dh2 dh3 dh4 dh5 dh6 dh7 s.heap.size d 15 k_83 (by decide)) ⟨hx, hb, hml, hown, hts⟩ g_X10_202 hdv_X10_isWord hK hST hS hP hD hA [0] [] rfl rfl rfl (k0 := 0) rfl rfl rfl ⟨Nat.le_of_ble_eq_true rfl, Nat.le_of_ble_eq_true rfl⟩ ⟨Nat.le_of_ble_eq_true rfl, Nat.le_of_ble_eq_true rfl⟩ rfl hl.1 rfl (Nat.le_of_ble_eq_true rfl) dX10_readsRest_199 (fun u_85 H locs huu hP hD hS => ?_)
                      obtain ⟨huu, b_84⟩ := huu
                      rw [← huu] at b_84
                      have eu_85 := huu
                      have hP : va_P G.1 vwCl (fl [wMo G dh0 dh1 dh2 dh3 dh4 dh5 dh6 dh7 u_85.2]) H := hP
                      have hD : va_D A (fl [wMo G dh0 dh1 dh2 dh3 dh4 dh5 dh6 dh7 u_85.2]) := hD
                      refine W.eq (g2 := F0 m 202 ls [.int u_85.1]) rfl ?_
                      have hF : f_X10_readsRest d i j = (if u_85.1 = (0 : Int32) then ((0 : Int32), u_85.2) else (let u_89 : Int32 × MoV := (f_X10_isNumber u_85.2 (3 : Int32) (j + (1 : Int32))); (if u_89.1 = (0 : Int32) then ((0 : Int32), u_89.2) else ((1 : Int32), u_89.2)))) := by subst eu_85; exact hF
                      have hok : (if u_85.1 = (0 : Int32) then True else (ok_X10_isNumber u_85.2 (3 : Int32) (j + (1 : Int32)) ∧ True)) := by subst eu_85; exact hok
                      refine lv_if_eq (tgt := 220) hx hb dX10_readsRest_202 (by decide) (fun c_86 => ?_) (fun c_86 => ?_)
                      · have hF := hF.trans (if_pos c_86)
                        have hok := Eq.mp (if_pos c_86) hok
                        refine lv_iconst (v := (0 : Int32)) hx hb dX10_readsRest_220 (by decide) ?_
                        exact w_ret (u := ((0 : Int32), u_85.2)) hx hb hr hlk rfl hS rfl ⟨hF.symm, (by rw [hF]; exact (rfl : narrow .boolean (.int (0 : Int32)) = .int (0 : Int32)))⟩ hP hD (Nat.le_of_ble_eq_true rfl) (Nat.le_of_ble_eq_true rfl) dX10_readsRest_221
                      · have hF := hF.trans (if_neg c_86)
                        have hok := Eq.mp (if_neg c_86) hok
                        refine lv_aload_n hx hb dX10_readsRest_205 rfl (lv_at hl 0 rfl) ?_
                        refine lv_iconst (v := (3 : Int32)) hx hb dX10_readsRest_206 (by decide) ?_
                        refine lv_iload_n hx hb dX10_readsRest_207 rfl (lv_at hl 2 rfl) ?_
                        refine lv_iconst (v := (1 : Int32)) hx hb dX10_readsRest_208 (by decide) ?_
                        refine lv_iadd hx hb dX10_readsRest_209 ?_
                        have k_87 := hok.1
                        have hok := hok.2
                        refine w_V (own := RX10) (cs := [wMo G dh0 dh1 dh2 dh3 dh4 dh5 dh6 dh7 u_85.2]) (rs := []) (As := [.int (3 : Int32), .int (j + (1 : Int32))]) (rest := []) (c_X10_isNumber l G dh0 dh1 dh2 dh3 dh4 dh5 dh6 dh7 H.size u_85.2 (3 : Int32) (j + (1 : Int32)) k_87) ⟨hx, hb, hml, hown, hts⟩ g_X10_197 hdv_X10_isNumber hK hST hS hP hD hA [0] [] rfl rfl rfl (k0 := 0) rfl rfl rfl ⟨Nat.le_of_ble_eq_true rfl, Nat.le_of_ble_eq_true rfl⟩ ⟨Nat.le_of_ble_eq_true rfl, Nat.le_of_ble_eq_true rfl⟩ rfl hl.1 rfl (Nat.le_of_ble_eq_true rfl) dX10_readsRest_210 (fun u_89 H locs huu hP hD hS => ?_)
                        obtain ⟨huu, b_88⟩ := huu
                        rw [← huu] at b_88
                        have eu_89 := huu
                        have hP : va_P G.1 vwCl (fl [wMo G dh0 dh1 dh2 dh3 dh4 dh5 dh6 dh7 u_89.2]) H := hP
                        have hD : va_D A (fl [wMo G dh0 dh1 dh2 dh3 dh4 dh5 dh6 dh7 u_89.2]) := hD
                        refine W.eq (g2 := F0 m 213 ls [.int u_89.1]) rfl ?_
                        have hF : f_X10_readsRest d i j = (if u_89.1 = (0 : Int32) then ((0 : Int32), u_89.2) else ((1 : Int32), u_89.2)) := by subst eu_89; exact hF
                        refine lv_if_eq (tgt := 220) hx hb dX10_readsRest_213 (by decide) (fun c_90 => ?_) (fun c_90 => ?_)
                        · have hF := hF.trans (if_pos c_90)
                          refine lv_iconst (v := (0 : Int32)) hx hb dX10_readsRest_220 (by decide) ?_
                          exact w_ret (u := ((0 : Int32), u_89.2)) hx hb hr hlk rfl hS rfl ⟨hF.symm, (by rw [hF]; exact (rfl : narrow .boolean (.int (0 : Int32)) = .int (0 : Int32)))⟩ hP hD (Nat.le_of_ble_eq_true rfl) (Nat.le_of_ble_eq_true rfl) dX10_readsRest_221
                        · have hF := hF.trans (if_neg c_90)
                          refine lv_iconst (v := (1 : Int32)) hx hb dX10_readsRest_216 (by decide) ?_
                          refine lv_goto (tgt := 221) hx hb dX10_readsRest_217 (by decide) ?_
                          exact w_ret (u := ((1 : Int32), u_89.2)) hx hb hr hlk rfl hS rfl ⟨hF.symm, (by rw [hF]; exact (rfl : narrow .boolean (.int (1 : Int32)) = .int (1 : Int32)))⟩ hP hD (Nat.le_of_ble_eq_true rfl) (Nat.le_of_ble_eq_true rfl) dX10_readsRest_221
                    · have hF := hF.trans (if_neg c_82)
                      have hok := Eq.mp (if_neg c_82) hok
                      by_cases c_91 : i = (113 : Int32)
                      · have hF := hF.trans (if_pos c_91)
                        have hok := Eq.mp (if_pos c_91) hok
                        refine lv_tableIn (off := 195) (tgt := 196) hx hb dX10_readsRest_1 (by rw [c_91]; decide) (by rw [c_91]; decide) (by rw [c_91]; rfl) (by decide) ?_
                        refine lv_aload_n hx hb dX10_readsRest_196 rfl (lv_at hl 0 rfl) ?_
                        refine va_ldcS (own := RX10) (tx := "ait ") (q := G.2.2.1 (10 + 15)) hx hb hown (hST.str (by decide +kernel)) dX10_readsRest_197 ?_
                        have k_92 := hok.1
                        have hok := hok.2
                        refine w_V (own := RX10) (cs := [wMo G dh0 dh1 dh2 dh3 dh4 dh5 dh6 dh7 d]) (rs := []) (As := [.ref (G.2.2.1 (10 + 15))]) (rest := []) (c_X10_isWord l G dh0 dh1 dh2 dh3 dh4 dh5 dh6 dh7 s.heap.size d 15 k_92 (by decide)) ⟨hx, hb, hml, hown, hts⟩ g_X10_202 hdv_X10_isWord hK hST hS hP hD hA [0] [] rfl rfl rfl (k0 := 0) rfl rfl rfl ⟨Nat.le_of_ble_eq_true rfl, Nat.le_of_ble_eq_true rfl⟩ ⟨Nat.le_of_ble_eq_true rfl, Nat.le_of_ble_eq_true rfl⟩ rfl hl.1 rfl (Nat.le_of_ble_eq_true rfl) dX10_readsRest_199 (fun u_94 H locs huu hP hD hS => ?_)
                        obtain ⟨huu, b_93⟩ := huu
                        rw [← huu] at b_93
                        have eu_94 := huu
                        have hP : va_P G.1 vwCl (fl [wMo G dh0 dh1 dh2 dh3 dh4 dh5 dh6 dh7 u_94.2]) H := hP
                        have hD : va_D A (fl [wMo G dh0 dh1 dh2 dh3 dh4 dh5 dh6 dh7 u_94.2]) := hD
                        refine W.eq (g2 := F0 m 202 ls [.int u_94.1]) rfl ?_
                        have hF : f_X10_readsRest d i j = (if u_94.1 = (0 : Int32) then ((0 : Int32), u_94.2) else (let u_98 : Int32 × MoV := (f_X10_isNumber u_94.2 (3 : Int32) (j + (1 : Int32))); (if u_98.1 = (0 : Int32) then ((0 : Int32), u_98.2) else ((1 : Int32), u_98.2)))) := by subst eu_94; exact hF
                        have hok : (if u_94.1 = (0 : Int32) then True else (ok_X10_isNumber u_94.2 (3 : Int32) (j + (1 : Int32)) ∧ True)) := by subst eu_94; exact hok
                        refine lv_if_eq (tgt := 220) hx hb dX10_readsRest_202 (by decide) (fun c_95 => ?_) (fun c_95 => ?_)
                        · have hF := hF.trans (if_pos c_95)
                          have hok := Eq.mp (if_pos c_95) hok
                          refine lv_iconst (v := (0 : Int32)) hx hb dX10_readsRest_220 (by decide) ?_
                          exact w_ret (u := ((0 : Int32), u_94.2)) hx hb hr hlk rfl hS rfl ⟨hF.symm, (by rw [hF]; exact (rfl : narrow .boolean (.int (0 : Int32)) = .int (0 : Int32)))⟩ hP hD (Nat.le_of_ble_eq_true rfl) (Nat.le_of_ble_eq_true rfl) dX10_readsRest_221
                        · have hF := hF.trans (if_neg c_95)
                          have hok := Eq.mp (if_neg c_95) hok
                          refine lv_aload_n hx hb dX10_readsRest_205 rfl (lv_at hl 0 rfl) ?_
                          refine lv_iconst (v := (3 : Int32)) hx hb dX10_readsRest_206 (by decide) ?_
                          refine lv_iload_n hx hb dX10_readsRest_207 rfl (lv_at hl 2 rfl) ?_
                          refine lv_iconst (v := (1 : Int32)) hx hb dX10_readsRest_208 (by decide) ?_
                          refine lv_iadd hx hb dX10_readsRest_209 ?_
                          have k_96 := hok.1
                          have hok := hok.2
                          refine w_V (own := RX10) (cs := [wMo G dh0 dh1 dh2 dh3 dh4 dh5 dh6 dh7 u_94.2]) (rs := []) (As := [.int (3 : Int32), .int (j + (1 : Int32))]) (rest := []) (c_X10_isNumber l G dh0 dh1 dh2 dh3 dh4 dh5 dh6 dh7 H.size u_94.2 (3 : Int32) (j + (1 : Int32)) k_96) ⟨hx, hb, hml, hown, hts⟩ g_X10_197 hdv_X10_isNumber hK hST hS hP hD hA [0] [] rfl rfl rfl (k0 := 0) rfl rfl rfl ⟨Nat.le_of_ble_eq_true rfl, Nat.le_of_ble_eq_true rfl⟩ ⟨Nat.le_of_ble_eq_true rfl, Nat.le_of_ble_eq_true rfl⟩ rfl hl.1 rfl (Nat.le_of_ble_eq_true rfl) dX10_readsRest_210 (fun u_98 H locs huu hP hD hS => ?_)
                          obtain ⟨huu, b_97⟩ := huu
                          rw [← huu] at b_97
                          have eu_98 := huu
                          have hP : va_P G.1 vwCl (fl [wMo G dh0 dh1 dh2 dh3 dh4 dh5 dh6 dh7 u_98.2]) H := hP
                          have hD : va_D A (fl [wMo G dh0 dh1 dh2 dh3 dh4 dh5 dh6 dh7 u_98.2]) := hD
                          refine W.eq (g2 := F0 m 213 ls [.int u_98.1]) rfl ?_
                          have hF : f_X10_readsRest d i j = (if u_98.1 = (0 : Int32) then ((0 : Int32), u_98.2) else ((1 : Int32), u_98.2)) := by subst eu_98; exact hF
                          refine lv_if_eq (tgt := 220) hx hb dX10_readsRest_213 (by decide) (fun c_99 => ?_) (fun c_99 => ?_)
                          · have hF := hF.trans (if_pos c_99)
                            refine lv_iconst (v := (0 : Int32)) hx hb dX10_readsRest_220 (by decide) ?_
                            exact w_ret (u := ((0 : Int32), u_98.2)) hx hb hr hlk rfl hS rfl ⟨hF.symm, (by rw [hF]; exact (rfl : narrow .boolean (.int (0 : Int32)) = .int (0 : Int32)))⟩ hP hD (Nat.le_of_ble_eq_true rfl) (Nat.le_of_ble_eq_true rfl) dX10_readsRest_221
                          · have hF := hF.trans (if_neg c_99)
                            refine lv_iconst (v := (1 : Int32)) hx hb dX10_readsRest_216 (by decide) ?_
                            refine lv_goto (tgt := 221) hx hb dX10_readsRest_217 (by decide) ?_
                            exact w_ret (u := ((1 : Int32), u_98.2)) hx hb hr hlk rfl hS rfl ⟨hF.symm, (by rw [hF]; exact (rfl : narrow .boolean (.int (1 : Int32)) = .int (1 : Int32)))⟩ hP hD (Nat.le_of_ble_eq_true rfl) (Nat.le_of_ble_eq_true rfl) dX10_readsRest_221
                      · have hF := hF.trans (if_neg c_91)
                        have hok := Eq.mp (if_neg c_91) hok
                        by_cases c_100 : i = (114 : Int32)
                        · have hF := hF.trans (if_pos c_100)
                          have hok := Eq.mp (if_pos c_100) hok
                          refine lv_tableIn (off := 195) (tgt := 196) hx hb dX10_readsRest_1 (by rw [c_100]; decide) (by rw [c_100]; decide) (by rw [c_100]; rfl) (by decide) ?_
                          refine lv_aload_n hx hb dX10_readsRest_196 rfl (lv_at hl 0 rfl) ?_
                          refine va_ldcS (own := RX10) (tx := "ait ") (q := G.2.2.1 (10 + 15)) hx hb hown (hST.str (by decide +kernel)) dX10_readsRest_197 ?_
                          have k_101 := hok.1
                          have hok := hok.2
                          refine w_V (own := RX10) (cs := [wMo G dh0 dh1 dh2 dh3 dh4 dh5 dh6 dh7 d]) (rs := []) (As := [.ref (G.2.2.1 (10 + 15))]) (rest := []) (c_X10_isWord l G dh0 dh1 dh2 dh3 dh4 dh5 dh6 dh7 s.heap.size d 15 k_101 (by decide)) ⟨hx, hb, hml, hown, hts⟩ g_X10_202 hdv_X10_isWord hK hST hS hP hD hA [0] [] rfl rfl rfl (k0 := 0) rfl rfl rfl ⟨Nat.le_of_ble_eq_true rfl, Nat.le_of_ble_eq_true rfl⟩ ⟨Nat.le_of_ble_eq_true rfl, Nat.le_of_ble_eq_true rfl⟩ rfl hl.1 rfl (Nat.le_of_ble_eq_true rfl) dX10_readsRest_199 (fun u_103 H locs huu hP hD hS => ?_)
                          obtain ⟨huu, b_102⟩ := huu
                          rw [← huu] at b_102
                          have eu_103 := huu
                          have hP : va_P G.1 vwCl (fl [wMo G dh0 dh1 dh2 dh3 dh4 dh5 dh6 dh7 u_103.2]) H := hP
                          have hD : va_D A (fl [wMo G dh0 dh1 dh2 dh3 dh4 dh5 dh6 dh7 u_103.2]) := hD
                          refine W.eq (g2 := F0 m 202 ls [.int u_103.1]) rfl ?_
                          have hF : f_X10_readsRest d i j = (if u_103.1 = (0 : Int32) then ((0 : Int32), u_103.2) else (let u_107 : Int32 × MoV := (f_X10_isNumber u_103.2 (3 : Int32) (j + (1 : Int32))); (if u_107.1 = (0 : Int32) then ((0 : Int32), u_107.2) else ((1 : Int32), u_107.2)))) := by subst eu_103; exact hF
                          have hok : (if u_103.1 = (0 : Int32) then True else (ok_X10_isNumber u_103.2 (3 : Int32) (j + (1 : Int32)) ∧ True)) := by subst eu_103; exact hok
                          refine lv_if_eq (tgt := 220) hx hb dX10_readsRest_202 (by decide) (fun c_104 => ?_) (fun c_104 => ?_)
                          · have hF := hF.trans (if_pos c_104)
                            have hok := Eq.mp (if_pos c_104) hok
                            refine lv_iconst (v := (0 : Int32)) hx hb dX10_readsRest_220 (by decide) ?_
                            exact w_ret (u := ((0 : Int32), u_103.2)) hx hb hr hlk rfl hS rfl ⟨hF.symm, (by rw [hF]; exact (rfl : narrow .boolean (.int (0 : Int32)) = .int (0 : Int32)))⟩ hP hD (Nat.le_of_ble_eq_true rfl) (Nat.le_of_ble_eq_true rfl) dX10_readsRest_221
                          · have hF := hF.trans (if_neg c_104)
                            have hok := Eq.mp (if_neg c_104) hok
                            refine lv_aload_n hx hb dX10_readsRest_205 rfl (lv_at hl 0 rfl) ?_
                            refine lv_iconst (v := (3 : Int32)) hx hb dX10_readsRest_206 (by decide) ?_
                            refine lv_iload_n hx hb dX10_readsRest_207 rfl (lv_at hl 2 rfl) ?_
                            refine lv_iconst (v := (1 : Int32)) hx hb dX10_readsRest_208 (by decide) ?_
                            refine lv_iadd hx hb dX10_readsRest_209 ?_
                            have k_105 := hok.1
                            have hok := hok.2
                            refine w_V (own := RX10) (cs := [wMo G dh0 dh1 dh2 dh3 dh4 dh5 dh6 dh7 u_103.2]) (rs := []) (As := [.int (3 : Int32), .int (j + (1 : Int32))]) (rest := []) (c_X10_isNumber l G dh0 dh1 dh2 dh3 dh4 dh5 dh6 dh7 H.size u_103.2 (3 : Int32) (j + (1 : Int32)) k_105) ⟨hx, hb, hml, hown, hts⟩ g_X10_197 hdv_X10_isNumber hK hST hS hP hD hA [0] [] rfl rfl rfl (k0 := 0) rfl rfl rfl ⟨Nat.le_of_ble_eq_true rfl, Nat.le_of_ble_eq_true rfl⟩ ⟨Nat.le_of_ble_eq_true rfl, Nat.le_of_ble_eq_true rfl⟩ rfl hl.1 rfl (Nat.le_of_ble_eq_true rfl) dX10_readsRest_210 (fun u_107 H locs huu hP hD hS => ?_)
                            obtain ⟨huu, b_106⟩ := huu
                            rw [← huu] at b_106
                            have eu_107 := huu
                            have hP : va_P G.1 vwCl (fl [wMo G dh0 dh1 dh2 dh3 dh4 dh5 dh6 dh7 u_107.2]) H := hP
                            have hD : va_D A (fl [wMo G dh0 dh1 dh2 dh3 dh4 dh5 dh6 dh7 u_107.2]) := hD
                            refine W.eq (g2 := F0 m 213 ls [.int u_107.1]) rfl ?_
                            have hF : f_X10_readsRest d i j = (if u_107.1 = (0 : Int32) then ((0 : Int32), u_107.2) else ((1 : Int32), u_107.2)) := by subst eu_107; exact hF
                            refine lv_if_eq (tgt := 220) hx hb dX10_readsRest_213 (by decide) (fun c_108 => ?_) (fun c_108 => ?_)
                            · have hF := hF.trans (if_pos c_108)
                              refine lv_iconst (v := (0 : Int32)) hx hb dX10_readsRest_220 (by decide) ?_
                              exact w_ret (u := ((0 : Int32), u_107.2)) hx hb hr hlk rfl hS rfl ⟨hF.symm, (by rw [hF]; exact (rfl : narrow .boolean (.int (0 : Int32)) = .int (0 : Int32)))⟩ hP hD (Nat.le_of_ble_eq_true rfl) (Nat.le_of_ble_eq_true rfl) dX10_readsRest_221
                            · have hF := hF.trans (if_neg c_108)
                              refine lv_iconst (v := (1 : Int32)) hx hb dX10_readsRest_216 (by decide) ?_
                              refine lv_goto (tgt := 221) hx hb dX10_readsRest_217 (by decide) ?_
                              exact w_ret (u := ((1 : Int32), u_107.2)) hx hb hr hlk rfl hS rfl ⟨hF.symm, (by rw [hF]; exact (rfl : narrow .boolean (.int (1 : Int32)) = .int (1 : Int32)))⟩ hP hD (Nat.le_of_ble_eq_true rfl) (Nat.le_of_ble_eq_true rfl) dX10_readsRest_221
                        · have hF := hF.trans (if_neg c_100)
                          have hok := Eq.mp (if_neg c_100) hok
                          by_cases c_109 : i = (115 : Int32)
                          · have hF := hF.trans (if_pos c_109)
                            have hok := Eq.mp (if_pos c_109) hok
                            refine lv_tableIn (off := 123) (tgt := 124) hx hb dX10_readsRest_1 (by rw [c_109]; decide) (by rw [c_109]; decide) (by rw [c_109]; rfl) (by decide) ?_
                            refine lv_aload_n hx hb dX10_readsRest_124 rfl (lv_at hl 0 rfl) ?_
                            refine va_ldcS (own := RX10) (tx := "hut ") (q := G.2.2.1 (10 + 12)) hx hb hown (hST.str (by decide +kernel)) dX10_readsRest_125 ?_
                            have k_110 := hok.1
                            have hok := hok.2
                            refine w_V (own := RX10) (cs := [wMo G dh0 dh1 dh2 dh3 dh4 dh5 dh6 dh7 d]) (rs := []) (As := [.ref (G.2.2.1 (10 + 12))]) (rest := []) (c_X10_isWord l G dh0 dh1 dh2 dh3 dh4 dh5 dh6 dh7 s.heap.size d 12 k_110 (by decide)) ⟨hx, hb, hml, hown, hts⟩ g_X10_202 hdv_X10_isWord hK hST hS hP hD hA [0] [] rfl rfl rfl (k0 := 0) rfl rfl rfl ⟨Nat.le_of_ble_eq_true rfl, Nat.le_of_ble_eq_true rfl⟩ ⟨Nat.le_of_ble_eq_true rfl, Nat.le_of_ble_eq_true rfl⟩ rfl hl.1 rfl (Nat.le_of_ble_eq_true rfl) dX10_readsRest_127 (fun u_112 H locs huu hP hD hS => ?_)
                            obtain ⟨huu, b_111⟩ := huu
                            rw [← huu] at b_111
                            have eu_112 := huu
                            have hP : va_P G.1 vwCl (fl [wMo G dh0 dh1 dh2 dh3 dh4 dh5 dh6 dh7 u_112.2]) H := hP
                            have hD : va_D A (fl [wMo G dh0 dh1 dh2 dh3 dh4 dh5 dh6 dh7 u_112.2]) := hD
                            refine W.eq (g2 := F0 m 130 ls [.int u_112.1]) rfl ?_
                            have hF : f_X10_readsRest d i j = (if u_112.1 = (0 : Int32) then ((0 : Int32), u_112.2) else (let u_116 : Int32 × MoV := (f_X10_isDoorDay u_112.2 j); (if u_116.1 = (0 : Int32) then ((0 : Int32), u_116.2) else ((1 : Int32), u_116.2)))) := by subst eu_112; exact hF
                            have hok : (if u_112.1 = (0 : Int32) then True else (ok_X10_isDoorDay u_112.2 j ∧ True)) := by subst eu_112; exact hok
                            refine lv_if_eq (tgt := 145) hx hb dX10_readsRest_130 (by decide) (fun c_113 => ?_) (fun c_113 => ?_)
                            · have hF := hF.trans (if_pos c_113)
                              have hok := Eq.mp (if_pos c_113) hok
                              refine lv_iconst (v := (0 : Int32)) hx hb dX10_readsRest_145 (by decide) ?_
                              exact w_ret (u := ((0 : Int32), u_112.2)) hx hb hr hlk rfl hS rfl ⟨hF.symm, (by rw [hF]; exact (rfl : narrow .boolean (.int (0 : Int32)) = .int (0 : Int32)))⟩ hP hD (Nat.le_of_ble_eq_true rfl) (Nat.le_of_ble_eq_true rfl) dX10_readsRest_146
                            · have hF := hF.trans (if_neg c_113)
                              have hok := Eq.mp (if_neg c_113) hok
                              refine lv_aload_n hx hb dX10_readsRest_133 rfl (lv_at hl 0 rfl) ?_
                              refine lv_iload_n hx hb dX10_readsRest_134 rfl (lv_at hl 2 rfl) ?_
                              have k_114 := hok.1
                              have hok := hok.2
                              refine w_V (own := RX10) (cs := [wMo G dh0 dh1 dh2 dh3 dh4 dh5 dh6 dh7 u_112.2]) (rs := []) (As := [.int j]) (rest := []) (c_X10_isDoorDay l G dh0 dh1 dh2 dh3 dh4 dh5 dh6 dh7 H.size u_112.2 j k_114) ⟨hx, hb, hml, hown, hts⟩ g_X10_218 hdv_X10_isDoorDay hK hST hS hP hD hA [0] [] rfl rfl rfl (k0 := 0) rfl rfl rfl ⟨Nat.le_of_ble_eq_true rfl, Nat.le_of_ble_eq_true rfl⟩ ⟨Nat.le_of_ble_eq_true rfl, Nat.le_of_ble_eq_true rfl⟩ rfl hl.1 rfl (Nat.le_of_ble_eq_true rfl) dX10_readsRest_135 (fun u_116 H locs huu hP hD hS => ?_)
                              obtain ⟨huu, b_115⟩ := huu
                              rw [← huu] at b_115
                              have eu_116 := huu
                              have hP : va_P G.1 vwCl (fl [wMo G dh0 dh1 dh2 dh3 dh4 dh5 dh6 dh7 u_116.2]) H := hP
                              have hD : va_D A (fl [wMo G dh0 dh1 dh2 dh3 dh4 dh5 dh6 dh7 u_116.2]) := hD
                              refine W.eq (g2 := F0 m 138 ls [.int u_116.1]) rfl ?_
                              have hF : f_X10_readsRest d i j = (if u_116.1 = (0 : Int32) then ((0 : Int32), u_116.2) else ((1 : Int32), u_116.2)) := by subst eu_116; exact hF
                              refine lv_if_eq (tgt := 145) hx hb dX10_readsRest_138 (by decide) (fun c_117 => ?_) (fun c_117 => ?_)
                              · have hF := hF.trans (if_pos c_117)
                                refine lv_iconst (v := (0 : Int32)) hx hb dX10_readsRest_145 (by decide) ?_
                                exact w_ret (u := ((0 : Int32), u_116.2)) hx hb hr hlk rfl hS rfl ⟨hF.symm, (by rw [hF]; exact (rfl : narrow .boolean (.int (0 : Int32)) = .int (0 : Int32)))⟩ hP hD (Nat.le_of_ble_eq_true rfl) (Nat.le_of_ble_eq_true rfl) dX10_readsRest_146
                              · have hF := hF.trans (if_neg c_117)
                                refine lv_iconst (v := (1 : Int32)) hx hb dX10_readsRest_141 (by decide) ?_
                                refine lv_goto (tgt := 146) hx hb dX10_readsRest_142 (by decide) ?_
                                exact w_ret (u := ((1 : Int32), u_116.2)) hx hb hr hlk rfl hS rfl ⟨hF.symm, (by rw [hF]; exact (rfl : narrow .boolean (.int (1 : Int32)) = .int (1 : Int32)))⟩ hP hD (Nat.le_of_ble_eq_true rfl) (Nat.le_of_ble_eq_true rfl) dX10_readsRest_146
                          · have hF := hF.trans (if_neg c_109)
                            have hok := Eq.mp (if_neg c_109) hok
                            by_cases c_118 : i = (116 : Int32)
                            · have hF := hF.trans (if_pos c_118)
                              have hok := Eq.mp (if_pos c_118) hok
                              refine lv_tableIn (off := 94) (tgt := 95) hx hb dX10_readsRest_1 (by rw [c_118]; decide) (by rw [c_118]; decide) (by rw [c_118]; rfl) (by decide) ?_
                              refine lv_aload_n hx hb dX10_readsRest_95 rfl (lv_at hl 0 rfl) ?_
                              refine lv_iload_n hx hb dX10_readsRest_96 rfl (lv_at hl 2 rfl) ?_
                              have k_119 := hok.1
                              have hok := hok.2
                              refine w_V (own := RX10) (cs := [wMo G dh0 dh1 dh2 dh3 dh4 dh5 dh6 dh7 d]) (rs := []) (As := [.int j]) (rest := []) (c_X10_readsT l G dh0 dh1 dh2 dh3 dh4 dh5 dh6 dh7 s.heap.size d j k_119) ⟨hx, hb, hml, hown, hts⟩ g_X10_213 hdv_X10_readsT hK hST hS hP hD hA [0] [] rfl rfl rfl (k0 := 0) rfl rfl rfl ⟨Nat.le_of_ble_eq_true rfl, Nat.le_of_ble_eq_true rfl⟩ ⟨Nat.le_of_ble_eq_true rfl, Nat.le_of_ble_eq_true rfl⟩ rfl hl.1 rfl (Nat.le_of_ble_eq_true rfl) dX10_readsRest_97 (fun u_121 H locs huu hP hD hS => ?_)
                              obtain ⟨huu, b_120⟩ := huu
                              rw [← huu] at b_120
                              have eu_121 := huu
                              have hP : va_P G.1 vwCl (fl [wMo G dh0 dh1 dh2 dh3 dh4 dh5 dh6 dh7 u_121.2]) H := hP
                              have hD : va_D A (fl [wMo G dh0 dh1 dh2 dh3 dh4 dh5 dh6 dh7 u_121.2]) := hD
                              refine W.eq (g2 := F0 m 100 ls [.int u_121.1]) rfl ?_
                              have hF : f_X10_readsRest d i j = (u_121.1, u_121.2) := by subst eu_121; exact hF
                              exact w_ret (u := (u_121.1, u_121.2)) hx hb hr hlk b_120 hS rfl ⟨hF.symm, (by rw [hF]; exact (b_120 : narrow .boolean (.int u_121.1) = .int u_121.1))⟩ hP hD (Nat.le_of_ble_eq_true rfl) (Nat.le_of_ble_eq_true rfl) dX10_readsRest_100
                            · have hF := hF.trans (if_neg c_118)
                              have hok := Eq.mp (if_neg c_118) hok
                              refine lv_tableOut (tgt := 196) hx hb dX10_readsRest_1 (by
                                  have g0 : (i).toInt ≠ 103 := fun e => c_1 (Int32.toInt_inj.mp (e.trans (by decide)))
                                  have g1 : (i).toInt ≠ 104 := fun e => c_10 (Int32.toInt_inj.mp (e.trans (by decide)))
                                  have g2 : (i).toInt ≠ 105 := fun e => c_19 (Int32.toInt_inj.mp (e.trans (by decide)))
                                  have g3 : (i).toInt ≠ 106 := fun e => c_28 (Int32.toInt_inj.mp (e.trans (by decide)))
                                  have g4 : (i).toInt ≠ 107 := fun e => c_37 (Int32.toInt_inj.mp (e.trans (by decide)))
                                  have g5 : (i).toInt ≠ 108 := fun e => c_46 (Int32.toInt_inj.mp (e.trans (by decide)))
                                  have g6 : (i).toInt ≠ 109 := fun e => c_55 (Int32.toInt_inj.mp (e.trans (by decide)))
                                  have g7 : (i).toInt ≠ 110 := fun e => c_64 (Int32.toInt_inj.mp (e.trans (by decide)))
                                  have g8 : (i).toInt ≠ 111 := fun e => c_73 (Int32.toInt_inj.mp (e.trans (by decide)))
                                  have g9 : (i).toInt ≠ 112 := fun e => c_82 (Int32.toInt_inj.mp (e.trans (by decide)))
                                  have g10 : (i).toInt ≠ 113 := fun e => c_91 (Int32.toInt_inj.mp (e.trans (by decide)))
                                  have g11 : (i).toInt ≠ 114 := fun e => c_100 (Int32.toInt_inj.mp (e.trans (by decide)))
                                  have g12 : (i).toInt ≠ 115 := fun e => c_109 (Int32.toInt_inj.mp (e.trans (by decide)))
                                  have g13 : (i).toInt ≠ 116 := fun e => c_118 (Int32.toInt_inj.mp (e.trans (by decide)))
                                  omega) (by decide) ?_
                              refine lv_aload_n hx hb dX10_readsRest_196 rfl (lv_at hl 0 rfl) ?_
                              refine va_ldcS (own := RX10) (tx := "ait ") (q := G.2.2.1 (10 + 15)) hx hb hown (hST.str (by decide +kernel)) dX10_readsRest_197 ?_
                              have k_122 := hok.1
                              have hok := hok.2
                              refine w_V (own := RX10) (cs := [wMo G dh0 dh1 dh2 dh3 dh4 dh5 dh6 dh7 d]) (rs := []) (As := [.ref (G.2.2.1 (10 + 15))]) (rest := []) (c_X10_isWord l G dh0 dh1 dh2 dh3 dh4 dh5 dh6 dh7 s.heap.size d 15 k_122 (by decide)) ⟨hx, hb, hml, hown, hts⟩ g_X10_202 hdv_X10_isWord hK hST hS hP hD hA [0] [] rfl rfl rfl (k0 := 0) rfl rfl rfl ⟨Nat.le_of_ble_eq_true rfl, Nat.le_of_ble_eq_true rfl⟩ ⟨Nat.le_of_ble_eq_true rfl, Nat.le_of_ble_eq_true rfl⟩ rfl hl.1 rfl (Nat.le_of_ble_eq_true rfl) dX10_readsRest_199 (fun u_124 H locs huu hP hD hS => ?_)
                              obtain ⟨huu, b_123⟩ := huu
                              rw [← huu] at b_123
                              have eu_124 := huu
                              have hP : va_P G.1 vwCl (fl [wMo G dh0 dh1 dh2 dh3 dh4 dh5 dh6 dh7 u_124.2]) H := hP
                              have hD : va_D A (fl [wMo G dh0 dh1 dh2 dh3 dh4 dh5 dh6 dh7 u_124.2]) := hD
                              refine W.eq (g2 := F0 m 202 ls [.int u_124.1]) rfl ?_
                              have hF : f_X10_readsRest d i j = (if u_124.1 = (0 : Int32) then ((0 : Int32), u_124.2) else (let u_128 : Int32 × MoV := (f_X10_isNumber u_124.2 (3 : Int32) (j + (1 : Int32))); (if u_128.1 = (0 : Int32) then ((0 : Int32), u_128.2) else ((1 : Int32), u_128.2)))) := by subst eu_124; exact hF
                              have hok : (if u_124.1 = (0 : Int32) then True else (ok_X10_isNumber u_124.2 (3 : Int32) (j + (1 : Int32)) ∧ True)) := by subst eu_124; exact hok
                              refine lv_if_eq (tgt := 220) hx hb dX10_readsRest_202 (by decide) (fun c_125 => ?_) (fun c_125 => ?_)
                              · have hF := hF.trans (if_pos c_125)
                                have hok := Eq.mp (if_pos c_125) hok
                                refine lv_iconst (v := (0 : Int32)) hx hb dX10_readsRest_220 (by decide) ?_
                                exact w_ret (u := ((0 : Int32), u_124.2)) hx hb hr hlk rfl hS rfl ⟨hF.symm, (by rw [hF]; exact (rfl : narrow .boolean (.int (0 : Int32)) = .int (0 : Int32)))⟩ hP hD (Nat.le_of_ble_eq_true rfl) (Nat.le_of_ble_eq_true rfl) dX10_readsRest_221
                              · have hF := hF.trans (if_neg c_125)
                                have hok := Eq.mp (if_neg c_125) hok
                                refine lv_aload_n hx hb dX10_readsRest_205 rfl (lv_at hl 0 rfl) ?_
                                refine lv_iconst (v := (3 : Int32)) hx hb dX10_readsRest_206 (by decide) ?_
                                refine lv_iload_n hx hb dX10_readsRest_207 rfl (lv_at hl 2 rfl) ?_
                                refine lv_iconst (v := (1 : Int32)) hx hb dX10_readsRest_208 (by decide) ?_
                                refine lv_iadd hx hb dX10_readsRest_209 ?_
                                have k_126 := hok.1
                                have hok := hok.2
                                refine w_V (own := RX10) (cs := [wMo G dh0 dh1 dh2 dh3 dh4 dh5 dh6 dh7 u_124.2]) (rs := []) (As := [.int (3 : Int32), .int (j + (1 : Int32))]) (rest := []) (c_X10_isNumber l G dh0 dh1 dh2 dh3 dh4 dh5 dh6 dh7 H.size u_124.2 (3 : Int32) (j + (1 : Int32)) k_126) ⟨hx, hb, hml, hown, hts⟩ g_X10_197 hdv_X10_isNumber hK hST hS hP hD hA [0] [] rfl rfl rfl (k0 := 0) rfl rfl rfl ⟨Nat.le_of_ble_eq_true rfl, Nat.le_of_ble_eq_true rfl⟩ ⟨Nat.le_of_ble_eq_true rfl, Nat.le_of_ble_eq_true rfl⟩ rfl hl.1 rfl (Nat.le_of_ble_eq_true rfl) dX10_readsRest_210 (fun u_128 H locs huu hP hD hS => ?_)
                                obtain ⟨huu, b_127⟩ := huu
                                rw [← huu] at b_127
                                have eu_128 := huu
                                have hP : va_P G.1 vwCl (fl [wMo G dh0 dh1 dh2 dh3 dh4 dh5 dh6 dh7 u_128.2]) H := hP
                                have hD : va_D A (fl [wMo G dh0 dh1 dh2 dh3 dh4 dh5 dh6 dh7 u_128.2]) := hD
                                refine W.eq (g2 := F0 m 213 ls [.int u_128.1]) rfl ?_
                                have hF : f_X10_readsRest d i j = (if u_128.1 = (0 : Int32) then ((0 : Int32), u_128.2) else ((1 : Int32), u_128.2)) := by subst eu_128; exact hF
                                refine lv_if_eq (tgt := 220) hx hb dX10_readsRest_213 (by decide) (fun c_129 => ?_) (fun c_129 => ?_)
                                · have hF := hF.trans (if_pos c_129)
                                  refine lv_iconst (v := (0 : Int32)) hx hb dX10_readsRest_220 (by decide) ?_
                                  exact w_ret (u := ((0 : Int32), u_128.2)) hx hb hr hlk rfl hS rfl ⟨hF.symm, (by rw [hF]; exact (rfl : narrow .boolean (.int (0 : Int32)) = .int (0 : Int32)))⟩ hP hD (Nat.le_of_ble_eq_true rfl) (Nat.le_of_ble_eq_true rfl) dX10_readsRest_221
                                · have hF := hF.trans (if_neg c_129)
                                  refine lv_iconst (v := (1 : Int32)) hx hb dX10_readsRest_216 (by decide) ?_
                                  refine lv_goto (tgt := 221) hx hb dX10_readsRest_217 (by decide) ?_
                                  exact w_ret (u := ((1 : Int32), u_128.2)) hx hb hr hlk rfl hS rfl ⟨hF.symm, (by rw [hF]; exact (rfl : narrow .boolean (.int (1 : Int32)) = .int (1 : Int32)))⟩ hP hD (Nat.le_of_ble_eq_true rfl) (Nat.le_of_ble_eq_true rfl) dX10_readsRest_221
theorem dX10_isFirst_0 : decode cX10_isFirst 0 = .ok (.iload_n 0, 1) := by decide +kernel
theorem dX10_isFirst_1 : decode cX10_isFirst 1 = .ok (.bipush 103, 2) := by decide +kernel
theorem dX10_isFirst_3 : decode cX10_isFirst 3 = .ok (.if_icmp .eq 39, 3) := by decide +kernel
theorem dX10_isFirst_42 : decode cX10_isFirst 42 = .ok (.iconst 1, 1) := by decide +kernel
theorem dX10_isFirst_43 : decode cX10_isFirst 43 = .ok (.goto 4, 3) := by decide +kernel
theorem dX10_isFirst_47 : decode cX10_isFirst 47 = .ok (.ireturn, 1) := by decide +kernel
theorem dX10_isFirst_6 : decode cX10_isFirst 6 = .ok (.iload_n 0, 1) := by decide +kernel
theorem dX10_isFirst_7 : decode cX10_isFirst 7 = .ok (.bipush 116, 2) := by decide +kernel
theorem dX10_isFirst_9 : decode cX10_isFirst 9 = .ok (.if_icmp .eq 33, 3) := by decide +kernel
theorem dX10_isFirst_12 : decode cX10_isFirst 12 = .ok (.iload_n 0, 1) := by decide +kernel
theorem dX10_isFirst_13 : decode cX10_isFirst 13 = .ok (.bipush 111, 2) := by decide +kernel
theorem dX10_isFirst_15 : decode cX10_isFirst 15 = .ok (.if_icmp .eq 27, 3) := by decide +kernel
theorem dX10_isFirst_18 : decode cX10_isFirst 18 = .ok (.iload_n 0, 1) := by decide +kernel
theorem dX10_isFirst_19 : decode cX10_isFirst 19 = .ok (.bipush 115, 2) := by decide +kernel
theorem dX10_isFirst_21 : decode cX10_isFirst 21 = .ok (.if_icmp .eq 21, 3) := by decide +kernel
theorem dX10_isFirst_24 : decode cX10_isFirst 24 = .ok (.iload_n 0, 1) := by decide +kernel
theorem dX10_isFirst_25 : decode cX10_isFirst 25 = .ok (.bipush 108, 2) := by decide +kernel
theorem dX10_isFirst_27 : decode cX10_isFirst 27 = .ok (.if_icmp .eq 15, 3) := by decide +kernel
theorem dX10_isFirst_30 : decode cX10_isFirst 30 = .ok (.iload_n 0, 1) := by decide +kernel
theorem dX10_isFirst_31 : decode cX10_isFirst 31 = .ok (.bipush 109, 2) := by decide +kernel
theorem dX10_isFirst_33 : decode cX10_isFirst 33 = .ok (.if_icmp .eq 9, 3) := by decide +kernel
theorem dX10_isFirst_36 : decode cX10_isFirst 36 = .ok (.iload_n 0, 1) := by decide +kernel
theorem dX10_isFirst_37 : decode cX10_isFirst 37 = .ok (.bipush 119, 2) := by decide +kernel
theorem dX10_isFirst_39 : decode cX10_isFirst 39 = .ok (.if_icmp .ne 7, 3) := by decide +kernel
theorem dX10_isFirst_46 : decode cX10_isFirst 46 = .ok (.iconst 0, 1) := by decide +kernel
def f_X10_isFirst (i : Int32) : Int32 := (if i = (103 : Int32) then (1 : Int32) else (if i = (116 : Int32) then (1 : Int32) else (if i = (111 : Int32) then (1 : Int32) else (if i = (115 : Int32) then (1 : Int32) else (if i = (108 : Int32) then (1 : Int32) else (if i = (109 : Int32) then (1 : Int32) else (if i = (119 : Int32) then (1 : Int32) else (0 : Int32))))))))
set_option maxHeartbeats 4000000 in
set_option maxRecDepth 100000 in
theorem c_X10_isFirst (l : Launch) (G : GG)  (i : Int32) : rMet l yX10_isFirst cX10_isFirst 1 (some .boolean) 1 G (fl []) [.int i] (some (.int (f_X10_isFirst i))) (narrow .boolean (.int (f_X10_isFirst i)) = .int (f_X10_isFirst i)) := by
  refine r_start (by decide +kernel) (Nat.le_of_ble_eq_true rfl) ?_
  intro p e s m below meth c hx hb hr hml hts hown hlk hP hK hST ls hl
  have hS : va_S (fun _ => False) s.heap s.heap [] := va_S.rf
  have hown : s.vm.findClass RX10 = some m.cls := hown
  have hl : lv_has ls 1 [(0, .int i)] := hl
  have hF : f_X10_isFirst i = (if i = (103 : Int32) then (1 : Int32) else (if i = (116 : Int32) then (1 : Int32) else (if i = (111 : Int32) then (1 : Int32) else (if i = (115 : Int32) then (1 : Int32) else (if i = (108 : Int32) then (1 : Int32) else (if i = (109 : Int32) then (1 : Int32) else (if i = (119 : Int32) then (1 : Int32) else (0 : Int32)))))))) := rfl
  refine lv_iload_n hx hb dX10_isFirst_0 rfl (lv_at hl 0 rfl) ?_
  refine lv_bipush (v := (103 : Int32)) hx hb dX10_isFirst_1 (by decide) ?_
  refine lv_icmp_eq (tgt := 42) hx hb dX10_isFirst_3 (by decide) (fun c_1 => ?_) (fun c_1 => ?_)
  · have hF := hF.trans (if_pos c_1)
    refine lv_iconst (v := (1 : Int32)) hx hb dX10_isFirst_42 (by decide) ?_
    refine lv_goto (tgt := 47) hx hb dX10_isFirst_43 (by decide) ?_
    exact r_ret hx hb hr hlk rfl (by rw [hF]) (by rw [hF]; exact (rfl : narrow .boolean (.int (1 : Int32)) = .int (1 : Int32))) dX10_isFirst_47
  · have hF := hF.trans (if_neg c_1)
    refine lv_iload_n hx hb dX10_isFirst_6 rfl (lv_at hl 0 rfl) ?_
    refine lv_bipush (v := (116 : Int32)) hx hb dX10_isFirst_7 (by decide) ?_
    refine lv_icmp_eq (tgt := 42) hx hb dX10_isFirst_9 (by decide) (fun c_2 => ?_) (fun c_2 => ?_)
    · have hF := hF.trans (if_pos c_2)
      refine lv_iconst (v := (1 : Int32)) hx hb dX10_isFirst_42 (by decide) ?_
      refine lv_goto (tgt := 47) hx hb dX10_isFirst_43 (by decide) ?_
      exact r_ret hx hb hr hlk rfl (by rw [hF]) (by rw [hF]; exact (rfl : narrow .boolean (.int (1 : Int32)) = .int (1 : Int32))) dX10_isFirst_47
    · have hF := hF.trans (if_neg c_2)
      refine lv_iload_n hx hb dX10_isFirst_12 rfl (lv_at hl 0 rfl) ?_
      refine lv_bipush (v := (111 : Int32)) hx hb dX10_isFirst_13 (by decide) ?_
      refine lv_icmp_eq (tgt := 42) hx hb dX10_isFirst_15 (by decide) (fun c_3 => ?_) (fun c_3 => ?_)
      · have hF := hF.trans (if_pos c_3)
        refine lv_iconst (v := (1 : Int32)) hx hb dX10_isFirst_42 (by decide) ?_
        refine lv_goto (tgt := 47) hx hb dX10_isFirst_43 (by decide) ?_
        exact r_ret hx hb hr hlk rfl (by rw [hF]) (by rw [hF]; exact (rfl : narrow .boolean (.int (1 : Int32)) = .int (1 : Int32))) dX10_isFirst_47
      · have hF := hF.trans (if_neg c_3)
        refine lv_iload_n hx hb dX10_isFirst_18 rfl (lv_at hl 0 rfl) ?_
        refine lv_bipush (v := (115 : Int32)) hx hb dX10_isFirst_19 (by decide) ?_
        refine lv_icmp_eq (tgt := 42) hx hb dX10_isFirst_21 (by decide) (fun c_4 => ?_) (fun c_4 => ?_)
        · have hF := hF.trans (if_pos c_4)
          refine lv_iconst (v := (1 : Int32)) hx hb dX10_isFirst_42 (by decide) ?_
          refine lv_goto (tgt := 47) hx hb dX10_isFirst_43 (by decide) ?_
          exact r_ret hx hb hr hlk rfl (by rw [hF]) (by rw [hF]; exact (rfl : narrow .boolean (.int (1 : Int32)) = .int (1 : Int32))) dX10_isFirst_47
        · have hF := hF.trans (if_neg c_4)
          refine lv_iload_n hx hb dX10_isFirst_24 rfl (lv_at hl 0 rfl) ?_
          refine lv_bipush (v := (108 : Int32)) hx hb dX10_isFirst_25 (by decide) ?_
          refine lv_icmp_eq (tgt := 42) hx hb dX10_isFirst_27 (by decide) (fun c_5 => ?_) (fun c_5 => ?_)
          · have hF := hF.trans (if_pos c_5)
            refine lv_iconst (v := (1 : Int32)) hx hb dX10_isFirst_42 (by decide) ?_
            refine lv_goto (tgt := 47) hx hb dX10_isFirst_43 (by decide) ?_
            exact r_ret hx hb hr hlk rfl (by rw [hF]) (by rw [hF]; exact (rfl : narrow .boolean (.int (1 : Int32)) = .int (1 : Int32))) dX10_isFirst_47
          · have hF := hF.trans (if_neg c_5)
            refine lv_iload_n hx hb dX10_isFirst_30 rfl (lv_at hl 0 rfl) ?_
            refine lv_bipush (v := (109 : Int32)) hx hb dX10_isFirst_31 (by decide) ?_
            refine lv_icmp_eq (tgt := 42) hx hb dX10_isFirst_33 (by decide) (fun c_6 => ?_) (fun c_6 => ?_)
            · have hF := hF.trans (if_pos c_6)
              refine lv_iconst (v := (1 : Int32)) hx hb dX10_isFirst_42 (by decide) ?_
              refine lv_goto (tgt := 47) hx hb dX10_isFirst_43 (by decide) ?_
              exact r_ret hx hb hr hlk rfl (by rw [hF]) (by rw [hF]; exact (rfl : narrow .boolean (.int (1 : Int32)) = .int (1 : Int32))) dX10_isFirst_47
            · have hF := hF.trans (if_neg c_6)
              refine lv_iload_n hx hb dX10_isFirst_36 rfl (lv_at hl 0 rfl) ?_
              refine lv_bipush (v := (119 : Int32)) hx hb dX10_isFirst_37 (by decide) ?_
              refine lv_icmp_ne (tgt := 46) hx hb dX10_isFirst_39 (by decide) (fun c_7 => ?_) (fun c_7 => ?_)
              · have hF := hF.trans (if_neg c_7)
                refine lv_iconst (v := (0 : Int32)) hx hb dX10_isFirst_46 (by decide) ?_
                exact r_ret hx hb hr hlk rfl (by rw [hF]) (by rw [hF]; exact (rfl : narrow .boolean (.int (0 : Int32)) = .int (0 : Int32))) dX10_isFirst_47
              · have hF := hF.trans (if_pos c_7)
                refine lv_iconst (v := (1 : Int32)) hx hb dX10_isFirst_42 (by decide) ?_
                refine lv_goto (tgt := 47) hx hb dX10_isFirst_43 (by decide) ?_
                exact r_ret hx hb hr hlk rfl (by rw [hF]) (by rw [hF]; exact (rfl : narrow .boolean (.int (1 : Int32)) = .int (1 : Int32))) dX10_isFirst_47
theorem dX10_readsCommand_0 : decode cX10_readsCommand 0 = .ok (.iconst 3, 1) := by decide +kernel
theorem dX10_readsCommand_1 : decode cX10_readsCommand 1 = .ok (.aload_n 0, 1) := by decide +kernel
theorem dX10_readsCommand_2 : decode cX10_readsCommand 2 = .ok (.getfield 229, 3) := by decide +kernel
theorem u_1696 : Cond.fieldLink RX10 229 "MoonlitDoorsModel" "commandMany" "I" ∈ UW := uw 1696 (by decide +kernel) rfl
theorem dX10_readsCommand_5 : decode cX10_readsCommand 5 = .ok (.imul, 1) := by decide +kernel
theorem dX10_readsCommand_6 : decode cX10_readsCommand 6 = .ok (.istore_n 1, 1) := by decide +kernel
theorem dX10_readsCommand_7 : decode cX10_readsCommand 7 = .ok (.aload_n 0, 1) := by decide +kernel
theorem dX10_readsCommand_8 : decode cX10_readsCommand 8 = .ok (.invokevirtual 182, 3) := by decide +kernel
theorem dX10_readsCommand_11 : decode cX10_readsCommand 11 = .ok (.istore_n 2, 1) := by decide +kernel
theorem dX10_readsCommand_12 : decode cX10_readsCommand 12 = .ok (.iload_n 2, 1) := by decide +kernel
theorem dX10_readsCommand_13 : decode cX10_readsCommand 13 = .ok (.invokestatic 232, 3) := by decide +kernel
theorem u_2080 : Cond.methodLink RX10 232 yX10_isFirst ∈ UW := uw 2080 (by decide +kernel) rfl
theorem u_2081 : Cond.static yX10_isFirst ∈ UW := uw 2081 (by decide +kernel) rfl
theorem u_2082 : Cond.code yX10_isFirst cX10_isFirst 1 (some .boolean) ∈ UW := uw 2082 (by decide +kernel) rfl
theorem g_X10_232 : GoodIn UW (va_wsS RX10 232 yX10_isFirst (wsU yX10_isFirst cX10_isFirst 1 (some .boolean))) := gS u_2080 u_2081 u_77 u_2082
theorem hds_X10_isFirst : yX10_isFirst.cls ≠ "java/lang/invoke/MethodHandle" ∧ yX10_isFirst.cls ≠ "java/lang/invoke/VarHandle" ∧ (parseMethodDescriptor yX10_isFirst.desc).map (fun d => d.parameters.length) = some 1 := by decide +kernel
theorem dX10_readsCommand_16 : decode cX10_readsCommand 16 = .ok (.ifCond .ne 5, 3) := by decide +kernel
theorem dX10_readsCommand_21 : decode cX10_readsCommand 21 = .ok (.aload_n 0, 1) := by decide +kernel
theorem dX10_readsCommand_22 : decode cX10_readsCommand 22 = .ok (.getfield 35, 3) := by decide +kernel
theorem dX10_readsCommand_25 : decode cX10_readsCommand 25 = .ok (.iload_n 1, 1) := by decide +kernel
theorem dX10_readsCommand_26 : decode cX10_readsCommand 26 = .ok (.iload_n 2, 1) := by decide +kernel
theorem dX10_readsCommand_27 : decode cX10_readsCommand 27 = .ok (.iastore, 1) := by decide +kernel
theorem dX10_readsCommand_28 : decode cX10_readsCommand 28 = .ok (.aload_n 0, 1) := by decide +kernel
theorem dX10_readsCommand_29 : decode cX10_readsCommand 29 = .ok (.dup, 1) := by decide +kernel
theorem dX10_readsCommand_30 : decode cX10_readsCommand 30 = .ok (.getfield 179, 3) := by decide +kernel
theorem dX10_readsCommand_33 : decode cX10_readsCommand 33 = .ok (.iconst 1, 1) := by decide +kernel
theorem dX10_readsCommand_34 : decode cX10_readsCommand 34 = .ok (.iadd, 1) := by decide +kernel
theorem dX10_readsCommand_35 : decode cX10_readsCommand 35 = .ok (.putfield 179, 3) := by decide +kernel
theorem dX10_readsCommand_38 : decode cX10_readsCommand 38 = .ok (.aload_n 0, 1) := by decide +kernel
theorem dX10_readsCommand_39 : decode cX10_readsCommand 39 = .ok (.dup, 1) := by decide +kernel
theorem dX10_readsCommand_40 : decode cX10_readsCommand 40 = .ok (.getfield 229, 3) := by decide +kernel
theorem dX10_readsCommand_43 : decode cX10_readsCommand 43 = .ok (.iconst 1, 1) := by decide +kernel
theorem dX10_readsCommand_44 : decode cX10_readsCommand 44 = .ok (.iadd, 1) := by decide +kernel
theorem dX10_readsCommand_45 : decode cX10_readsCommand 45 = .ok (.putfield 229, 3) := by decide +kernel
theorem dX10_readsCommand_48 : decode cX10_readsCommand 48 = .ok (.aload_n 0, 1) := by decide +kernel
theorem dX10_readsCommand_49 : decode cX10_readsCommand 49 = .ok (.iload_n 2, 1) := by decide +kernel
theorem dX10_readsCommand_50 : decode cX10_readsCommand 50 = .ok (.iload_n 1, 1) := by decide +kernel
theorem dX10_readsCommand_51 : decode cX10_readsCommand 51 = .ok (.invokevirtual 235, 3) := by decide +kernel
theorem u_2083 : Cond.methodLink RX10 235 yX10_readsRest ∈ UW := uw 2083 (by decide +kernel) rfl
theorem u_2085 : Cond.instanceMethod yX10_readsRest ∈ UW := uw 2085 (by decide +kernel) rfl
theorem u_56 : Cond.selects RX10 yX10_readsRest yX10_readsRest ∈ UW := uw 56 (by decide +kernel) rfl
theorem u_2086 : Cond.code yX10_readsRest cX10_readsRest 3 (some .boolean) ∈ UW := uw 2086 (by decide +kernel) rfl
theorem g_X10_235 : GoodIn UW (wsV RX10 235 RX10 yX10_readsRest (wsU yX10_readsRest cX10_readsRest 3 (some .boolean))) := gV u_2083 u_2085 u_56 u_77 u_2086
theorem hdv_X10_readsRest : yX10_readsRest.cls = RX10 ∧ yX10_readsRest.cls ≠ "java/lang/invoke/MethodHandle" ∧ yX10_readsRest.cls ≠ "java/lang/invoke/VarHandle" ∧ (parseMethodDescriptor yX10_readsRest.desc).map (fun d => d.parameters.length) = some 2 := by decide +kernel
theorem dX10_readsCommand_54 : decode cX10_readsCommand 54 = .ok (.ireturn, 1) := by decide +kernel
theorem dX10_readsCommand_19 : decode cX10_readsCommand 19 = .ok (.iconst 0, 1) := by decide +kernel
theorem dX10_readsCommand_20 : decode cX10_readsCommand 20 = .ok (.ireturn, 1) := by decide +kernel
def f_X10_readsCommand (d : MoV) : Int32 × MoV := (if (f_X10_isFirst (f_X10_sign d)) = (0 : Int32) then ((0 : Int32), d) else (let u_8 : Int32 × MoV := (f_X10_readsRest (mo16 (mo15 (mo13 d (upd d.2.2.2.2.2.2.2.2.2.2.2.2.2.1 ((3 : Int32) * d.2.2.2.2.2.2.2.2.2.2.2.2.2.2.2.2).toNatClampNeg (f_X10_sign d))) (d.2.2.2.2.2.2.2.2.2.2.2.2.2.2.2.1 + (1 : Int32))) (d.2.2.2.2.2.2.2.2.2.2.2.2.2.2.2.2 + (1 : Int32))) (f_X10_sign d) ((3 : Int32) * d.2.2.2.2.2.2.2.2.2.2.2.2.2.2.2.2)); (u_8.1, u_8.2)))
def ok_X10_readsCommand (d : MoV) : Prop := (ok_X10_sign d ∧ (if (f_X10_isFirst (f_X10_sign d)) = (0 : Int32) then True else (vp_in ((3 : Int32) * d.2.2.2.2.2.2.2.2.2.2.2.2.2.2.2.2) 93 ∧ (ok_X10_readsRest (mo16 (mo15 (mo13 d (upd d.2.2.2.2.2.2.2.2.2.2.2.2.2.1 ((3 : Int32) * d.2.2.2.2.2.2.2.2.2.2.2.2.2.2.2.2).toNatClampNeg (f_X10_sign d))) (d.2.2.2.2.2.2.2.2.2.2.2.2.2.2.2.1 + (1 : Int32))) (d.2.2.2.2.2.2.2.2.2.2.2.2.2.2.2.2 + (1 : Int32))) (f_X10_sign d) ((3 : Int32) * d.2.2.2.2.2.2.2.2.2.2.2.2.2.2.2.2) ∧ True))))
set_option maxHeartbeats 4000000 in
set_option maxRecDepth 100000 in
theorem c_X10_readsCommand (l : Launch) (G : GG) (dh0 : Nat) (dh1 : Nat) (dh2 : Nat) (dh3 : Nat) (dh4 : Nat) (dh5 : Nat) (dh6 : Nat) (dh7 : Nat) (sz : Nat) (d : MoV) (hok : ok_X10_readsCommand d) : wMet l yX10_readsCommand cX10_readsCommand 3 (some .boolean) 8 0 0 G (fl [wMo G dh0 dh1 dh2 dh3 dh4 dh5 dh6 dh7 d]) [.ref dh0] sz (fun u : Int32 × MoV => some (.int u.1)) (fun u : Int32 × MoV => u = f_X10_readsCommand d ∧ narrow .boolean (.int ((f_X10_readsCommand d).1)) = .int ((f_X10_readsCommand d).1)) (fun u : Int32 × MoV => fl [wMo G dh0 dh1 dh2 dh3 dh4 dh5 dh6 dh7 u.2]) := by
  refine w_start (by decide +kernel) (Nat.le_of_ble_eq_true rfl) ?_
  intro p e s m below meth c A hx hb hr hml hts hown hlk hin hP hD hA hK hST ls hl
  have hS : va_S A s.heap s.heap [] := va_S.rf
  have hown : s.vm.findClass RX10 = some m.cls := hown
  have hl : lv_has ls 3 [(0, .ref dh0)] := hl
  have hF : f_X10_readsCommand d = (if (f_X10_isFirst (f_X10_sign d)) = (0 : Int32) then ((0 : Int32), d) else (let u_8 : Int32 × MoV := (f_X10_readsRest (mo16 (mo15 (mo13 d (upd d.2.2.2.2.2.2.2.2.2.2.2.2.2.1 ((3 : Int32) * d.2.2.2.2.2.2.2.2.2.2.2.2.2.2.2.2).toNatClampNeg (f_X10_sign d))) (d.2.2.2.2.2.2.2.2.2.2.2.2.2.2.2.1 + (1 : Int32))) (d.2.2.2.2.2.2.2.2.2.2.2.2.2.2.2.2 + (1 : Int32))) (f_X10_sign d) ((3 : Int32) * d.2.2.2.2.2.2.2.2.2.2.2.2.2.2.2.2)); (u_8.1, u_8.2))) := rfl
  have hok : (ok_X10_sign d ∧ (if (f_X10_isFirst (f_X10_sign d)) = (0 : Int32) then True else (vp_in ((3 : Int32) * d.2.2.2.2.2.2.2.2.2.2.2.2.2.2.2.2) 93 ∧ (ok_X10_readsRest (mo16 (mo15 (mo13 d (upd d.2.2.2.2.2.2.2.2.2.2.2.2.2.1 ((3 : Int32) * d.2.2.2.2.2.2.2.2.2.2.2.2.2.2.2.2).toNatClampNeg (f_X10_sign d))) (d.2.2.2.2.2.2.2.2.2.2.2.2.2.2.2.1 + (1 : Int32))) (d.2.2.2.2.2.2.2.2.2.2.2.2.2.2.2.2 + (1 : Int32))) (f_X10_sign d) ((3 : Int32) * d.2.2.2.2.2.2.2.2.2.2.2.2.2.2.2.2) ∧ True)))) := hok
  refine lv_iconst (v := (3 : Int32)) hx hb dX10_readsCommand_0 (by decide) ?_
  refine lv_aload_n hx hb dX10_readsCommand_1 rfl (lv_at hl 0 rfl) ?_
  refine va_get (D := G.1) (ci := 12) (v := .int d.2.2.2.2.2.2.2.2.2.2.2.2.2.2.2.2) (C := RX10) (T := TX10) (N := 17) hx hb hts uws_X10 hown hK hP 0 rfl rfl 16 (by decide) (hts _ u_1696) (fun _ h9 => h9) rfl dX10_readsCommand_2 ?_
  refine lv_imul hx hb dX10_readsCommand_5 ?_
  refine lv_istore_n (lv' := [(1, .int ((3 : Int32) * d.2.2.2.2.2.2.2.2.2.2.2.2.2.2.2.2)), (0, .ref dh0)]) hx hb dX10_readsCommand_6 rfl hl (by decide) rfl (fun ls hl => ?_)
  refine lv_aload_n hx hb dX10_readsCommand_7 rfl (lv_at hl 1 rfl) ?_
  have k_1 := hok.1
  have hok := hok.2
  refine r_V (own := RX10) (v := (some (.int (f_X10_sign d)))) (st1 := [.int (f_X10_sign d)]) (As := []) (rest := []) (c_X10_sign l G dh0 dh1 dh2 dh3 dh4 dh5 dh6 dh7 d k_1) ⟨hx, hb, hml, hown, hts⟩ g_X10_182 hdv_X10_sign hK hST hS hP [0, 1, 2, 3, 4, 5, 6, 7] rfl (k0 := 0) rfl rfl rfl ⟨Nat.le_of_ble_eq_true rfl, Nat.le_of_ble_eq_true rfl⟩ ⟨Nat.le_of_ble_eq_true rfl, Nat.le_of_ble_eq_true rfl⟩ rfl hl.1 rfl (Nat.le_of_ble_eq_true rfl) dX10_readsCommand_8 rfl (fun b_2 => ?_)
  refine lv_istore_n (lv' := [(2, .int (f_X10_sign d)), (1, .int ((3 : Int32) * d.2.2.2.2.2.2.2.2.2.2.2.2.2.2.2.2)), (0, .ref dh0)]) hx hb dX10_readsCommand_11 rfl hl (by decide) rfl (fun ls hl => ?_)
  refine lv_iload_n hx hb dX10_readsCommand_12 rfl (lv_at hl 0 rfl) ?_
  refine r_S (own := RX10) (v := (some (.int (f_X10_isFirst (f_X10_sign d))))) (st1 := [.int (f_X10_isFirst (f_X10_sign d))]) (As := [.int (f_X10_sign d)]) (rest := []) (c_X10_isFirst l G (f_X10_sign d)) ⟨hx, hb, hml, hown, hts⟩ g_X10_232 hds_X10_isFirst hK hST hS hP [] rfl ⟨Nat.le_of_ble_eq_true rfl, Nat.le_of_ble_eq_true rfl⟩ ⟨Nat.le_of_ble_eq_true rfl, Nat.le_of_ble_eq_true rfl⟩ rfl hl.1 rfl (Nat.le_of_ble_eq_true rfl) dX10_readsCommand_13 rfl (fun b_3 => ?_)
  refine lv_if_ne (tgt := 21) hx hb dX10_readsCommand_16 (by decide) (fun c_4 => ?_) (fun c_4 => ?_)
  · have hF := hF.trans (if_neg c_4)
    have hok := Eq.mp (if_neg c_4) hok
    refine lv_aload_n hx hb dX10_readsCommand_21 rfl (lv_at hl 2 rfl) ?_
    refine va_get (D := G.1) (ci := 12) (v := .ref dh7) (C := RX10) (T := TX10) (N := 17) hx hb hts uws_X10 hown hK hP 0 rfl rfl 13 (by decide) (hts _ u_1693) (fun _ h9 => h9) rfl dX10_readsCommand_22 ?_
    refine lv_iload_n hx hb dX10_readsCommand_25 rfl (lv_at hl 1 rfl) ?_
    refine lv_iload_n hx hb dX10_readsCommand_26 rfl (lv_at hl 0 rfl) ?_
    have h_5 := hok.1
    have hok := hok.2
    refine va_iast hx hb hK hP hD hS 7 0 rfl rfl h_5 dX10_readsCommand_27 (fun H locs hP hD hS => ?_)
    have hP : va_P G.1 vwCl (fl [wMo G dh0 dh1 dh2 dh3 dh4 dh5 dh6 dh7 (mo13 d (upd d.2.2.2.2.2.2.2.2.2.2.2.2.2.1 ((3 : Int32) * d.2.2.2.2.2.2.2.2.2.2.2.2.2.2.2.2).toNatClampNeg (f_X10_sign d)))]) H := hP
    have hD : va_D A (fl [wMo G dh0 dh1 dh2 dh3 dh4 dh5 dh6 dh7 (mo13 d (upd d.2.2.2.2.2.2.2.2.2.2.2.2.2.1 ((3 : Int32) * d.2.2.2.2.2.2.2.2.2.2.2.2.2.2.2.2).toNatClampNeg (f_X10_sign d)))]) := hD
    refine lv_aload_n hx hb dX10_readsCommand_28 rfl (lv_at hl 2 rfl) ?_
    refine lv_dup hx hb dX10_readsCommand_29 rfl ?_
    refine va_get (D := G.1) (ci := 12) (v := .int d.2.2.2.2.2.2.2.2.2.2.2.2.2.2.2.1) (C := RX10) (T := TX10) (N := 17) hx hb hts uws_X10 hown hK hP 0 rfl rfl 15 (by decide) (hts _ u_1695) (fun _ h9 => h9) rfl dX10_readsCommand_30 ?_
    refine lv_iconst (v := (1 : Int32)) hx hb dX10_readsCommand_33 (by decide) ?_
    refine lv_iadd hx hb dX10_readsCommand_34 ?_
    refine va_put (D := G.1) (ci := 12) (v := .int (d.2.2.2.2.2.2.2.2.2.2.2.2.2.2.2.1 + (1 : Int32))) (ty := .int) (C := RX10) (T := TX10) (N := 17) hx hb hts uws_X10 tyX10 tyX10_ok nmX10 hown hK hP hD hS 0 rfl rfl 15 (by decide) (hts _ u_1695) (fun _ h9 => h9) rfl (by decide +kernel) rfl rfl (Nat.le_of_ble_eq_true rfl) dX10_readsCommand_35 (fun H locs hP hD hS => ?_)
    have hP : va_P G.1 vwCl (fl [wMo G dh0 dh1 dh2 dh3 dh4 dh5 dh6 dh7 (mo15 (mo13 d (upd d.2.2.2.2.2.2.2.2.2.2.2.2.2.1 ((3 : Int32) * d.2.2.2.2.2.2.2.2.2.2.2.2.2.2.2.2).toNatClampNeg (f_X10_sign d))) (d.2.2.2.2.2.2.2.2.2.2.2.2.2.2.2.1 + (1 : Int32)))]) H := hP
    have hD : va_D A (fl [wMo G dh0 dh1 dh2 dh3 dh4 dh5 dh6 dh7 (mo15 (mo13 d (upd d.2.2.2.2.2.2.2.2.2.2.2.2.2.1 ((3 : Int32) * d.2.2.2.2.2.2.2.2.2.2.2.2.2.2.2.2).toNatClampNeg (f_X10_sign d))) (d.2.2.2.2.2.2.2.2.2.2.2.2.2.2.2.1 + (1 : Int32)))]) := hD
    refine lv_aload_n hx hb dX10_readsCommand_38 rfl (lv_at hl 2 rfl) ?_
    refine lv_dup hx hb dX10_readsCommand_39 rfl ?_
    refine va_get (D := G.1) (ci := 12) (v := .int d.2.2.2.2.2.2.2.2.2.2.2.2.2.2.2.2) (C := RX10) (T := TX10) (N := 17) hx hb hts uws_X10 hown hK hP 0 rfl rfl 16 (by decide) (hts _ u_1696) (fun _ h9 => h9) rfl dX10_readsCommand_40 ?_
    refine lv_iconst (v := (1 : Int32)) hx hb dX10_readsCommand_43 (by decide) ?_
    refine lv_iadd hx hb dX10_readsCommand_44 ?_
    refine va_put (D := G.1) (ci := 12) (v := .int (d.2.2.2.2.2.2.2.2.2.2.2.2.2.2.2.2 + (1 : Int32))) (ty := .int) (C := RX10) (T := TX10) (N := 17) hx hb hts uws_X10 tyX10 tyX10_ok nmX10 hown hK hP hD hS 0 rfl rfl 16 (by decide) (hts _ u_1696) (fun _ h9 => h9) rfl (by decide +kernel) rfl rfl (Nat.le_of_ble_eq_true rfl) dX10_readsCommand_45 (fun H locs hP hD hS => ?_)
    have hP : va_P G.1 vwCl (fl [wMo G dh0 dh1 dh2 dh3 dh4 dh5 dh6 dh7 (mo16 (mo15 (mo13 d (upd d.2.2.2.2.2.2.2.2.2.2.2.2.2.1 ((3 : Int32) * d.2.2.2.2.2.2.2.2.2.2.2.2.2.2.2.2).toNatClampNeg (f_X10_sign d))) (d.2.2.2.2.2.2.2.2.2.2.2.2.2.2.2.1 + (1 : Int32))) (d.2.2.2.2.2.2.2.2.2.2.2.2.2.2.2.2 + (1 : Int32)))]) H := hP
    have hD : va_D A (fl [wMo G dh0 dh1 dh2 dh3 dh4 dh5 dh6 dh7 (mo16 (mo15 (mo13 d (upd d.2.2.2.2.2.2.2.2.2.2.2.2.2.1 ((3 : Int32) * d.2.2.2.2.2.2.2.2.2.2.2.2.2.2.2.2).toNatClampNeg (f_X10_sign d))) (d.2.2.2.2.2.2.2.2.2.2.2.2.2.2.2.1 + (1 : Int32))) (d.2.2.2.2.2.2.2.2.2.2.2.2.2.2.2.2 + (1 : Int32)))]) := hD
    refine lv_aload_n hx hb dX10_readsCommand_48 rfl (lv_at hl 2 rfl) ?_
    refine lv_iload_n hx hb dX10_readsCommand_49 rfl (lv_at hl 0 rfl) ?_
    refine lv_iload_n hx hb dX10_readsCommand_50 rfl (lv_at hl 1 rfl) ?_
    have k_6 := hok.1
    have hok := hok.2
    refine w_V (own := RX10) (cs := [wMo G dh0 dh1 dh2 dh3 dh4 dh5 dh6 dh7 (mo16 (mo15 (mo13 d (upd d.2.2.2.2.2.2.2.2.2.2.2.2.2.1 ((3 : Int32) * d.2.2.2.2.2.2.2.2.2.2.2.2.2.2.2.2).toNatClampNeg (f_X10_sign d))) (d.2.2.2.2.2.2.2.2.2.2.2.2.2.2.2.1 + (1 : Int32))) (d.2.2.2.2.2.2.2.2.2.2.2.2.2.2.2.2 + (1 : Int32)))]) (rs := []) (As := [.int (f_X10_sign d), .int ((3 : Int32) * d.2.2.2.2.2.2.2.2.2.2.2.2.2.2.2.2)]) (rest := []) (c_X10_readsRest l G dh0 dh1 dh2 dh3 dh4 dh5 dh6 dh7 H.size (mo16 (mo15 (mo13 d (upd d.2.2.2.2.2.2.2.2.2.2.2.2.2.1 ((3 : Int32) * d.2.2.2.2.2.2.2.2.2.2.2.2.2.2.2.2).toNatClampNeg (f_X10_sign d))) (d.2.2.2.2.2.2.2.2.2.2.2.2.2.2.2.1 + (1 : Int32))) (d.2.2.2.2.2.2.2.2.2.2.2.2.2.2.2.2 + (1 : Int32))) (f_X10_sign d) ((3 : Int32) * d.2.2.2.2.2.2.2.2.2.2.2.2.2.2.2.2) k_6) ⟨hx, hb, hml, hown, hts⟩ g_X10_235 hdv_X10_readsRest hK hST hS hP hD hA [0] [] rfl rfl rfl (k0 := 0) rfl rfl rfl ⟨Nat.le_of_ble_eq_true rfl, Nat.le_of_ble_eq_true rfl⟩ ⟨Nat.le_of_ble_eq_true rfl, Nat.le_of_ble_eq_true rfl⟩ rfl hl.1 rfl (Nat.le_of_ble_eq_true rfl) dX10_readsCommand_51 (fun u_8 H locs huu hP hD hS => ?_)
    obtain ⟨huu, b_7⟩ := huu
    rw [← huu] at b_7
    have eu_8 := huu
    have hP : va_P G.1 vwCl (fl [wMo G dh0 dh1 dh2 dh3 dh4 dh5 dh6 dh7 u_8.2]) H := hP
    have hD : va_D A (fl [wMo G dh0 dh1 dh2 dh3 dh4 dh5 dh6 dh7 u_8.2]) := hD
    refine W.eq (g2 := F0 m 54 ls [.int u_8.1]) rfl ?_
    have hF : f_X10_readsCommand d = (u_8.1, u_8.2) := by subst eu_8; exact hF
    exact w_ret (u := (u_8.1, u_8.2)) hx hb hr hlk b_7 hS rfl ⟨hF.symm, (by rw [hF]; exact (b_7 : narrow .boolean (.int u_8.1) = .int u_8.1))⟩ hP hD (Nat.le_of_ble_eq_true rfl) (Nat.le_of_ble_eq_true rfl) dX10_readsCommand_54
  · have hF := hF.trans (if_pos c_4)
    have hok := Eq.mp (if_pos c_4) hok
    refine lv_iconst (v := (0 : Int32)) hx hb dX10_readsCommand_19 (by decide) ?_
    exact w_ret (u := ((0 : Int32), d)) hx hb hr hlk rfl hS rfl ⟨hF.symm, (by rw [hF]; exact (rfl : narrow .boolean (.int (0 : Int32)) = .int (0 : Int32)))⟩ hP hD (Nat.le_of_ble_eq_true rfl) (Nat.le_of_ble_eq_true rfl) dX10_readsCommand_20
theorem dX10_isProgram_0 : decode cX10_isProgram 0 = .ok (.aload_n 0, 1) := by decide +kernel
theorem dX10_isProgram_1 : decode cX10_isProgram 1 = .ok (.iconst 0, 1) := by decide +kernel
theorem dX10_isProgram_2 : decode cX10_isProgram 2 = .ok (.putfield 179, 3) := by decide +kernel
theorem dX10_isProgram_5 : decode cX10_isProgram 5 = .ok (.aload_n 0, 1) := by decide +kernel
theorem dX10_isProgram_6 : decode cX10_isProgram 6 = .ok (.iconst 0, 1) := by decide +kernel
theorem dX10_isProgram_7 : decode cX10_isProgram 7 = .ok (.putfield 229, 3) := by decide +kernel
theorem dX10_isProgram_10 : decode cX10_isProgram 10 = .ok (.aload_n 0, 1) := by decide +kernel
theorem dX10_isProgram_11 : decode cX10_isProgram 11 = .ok (.invokevirtual 238, 3) := by decide +kernel
theorem u_2072 : Cond.methodLink RX10 238 yX10_readsCommand ∈ UW := uw 2072 (by decide +kernel) rfl
theorem u_2074 : Cond.instanceMethod yX10_readsCommand ∈ UW := uw 2074 (by decide +kernel) rfl
theorem u_54 : Cond.selects RX10 yX10_readsCommand yX10_readsCommand ∈ UW := uw 54 (by decide +kernel) rfl
theorem u_2075 : Cond.code yX10_readsCommand cX10_readsCommand 3 (some .boolean) ∈ UW := uw 2075 (by decide +kernel) rfl
theorem g_X10_238 : GoodIn UW (wsV RX10 238 RX10 yX10_readsCommand (wsU yX10_readsCommand cX10_readsCommand 3 (some .boolean))) := gV u_2072 u_2074 u_54 u_77 u_2075
theorem hdv_X10_readsCommand : yX10_readsCommand.cls = RX10 ∧ yX10_readsCommand.cls ≠ "java/lang/invoke/MethodHandle" ∧ yX10_readsCommand.cls ≠ "java/lang/invoke/VarHandle" ∧ (parseMethodDescriptor yX10_readsCommand.desc).map (fun d => d.parameters.length) = some 0 := by decide +kernel
theorem dX10_isProgram_14 : decode cX10_isProgram 14 = .ok (.istore_n 1, 1) := by decide +kernel
theorem dX10_isProgram_15 : decode cX10_isProgram 15 = .ok (.iload_n 1, 1) := by decide +kernel
theorem dX10_isProgram_16 : decode cX10_isProgram 16 = .ok (.ifCond .eq 20, 3) := by decide +kernel
theorem dX10_isProgram_36 : decode cX10_isProgram 36 = .ok (.iload_n 1, 1) := by decide +kernel
theorem dX10_isProgram_37 : decode cX10_isProgram 37 = .ok (.ifCond .eq 18, 3) := by decide +kernel
theorem dX10_isProgram_55 : decode cX10_isProgram 55 = .ok (.iconst 0, 1) := by decide +kernel
theorem dX10_isProgram_56 : decode cX10_isProgram 56 = .ok (.ireturn, 1) := by decide +kernel
theorem dX10_isProgram_19 : decode cX10_isProgram 19 = .ok (.aload_n 0, 1) := by decide +kernel
theorem dX10_isProgram_20 : decode cX10_isProgram 20 = .ok (.bipush 59, 2) := by decide +kernel
theorem dX10_isProgram_22 : decode cX10_isProgram 22 = .ok (.invokevirtual 194, 3) := by decide +kernel
theorem dX10_isProgram_25 : decode cX10_isProgram 25 = .ok (.ifCond .eq 11, 3) := by decide +kernel
theorem dX10_isProgram_40 : decode cX10_isProgram 40 = .ok (.aload_n 0, 1) := by decide +kernel
theorem dX10_isProgram_41 : decode cX10_isProgram 41 = .ok (.getfield 179, 3) := by decide +kernel
theorem dX10_isProgram_44 : decode cX10_isProgram 44 = .ok (.aload_n 0, 1) := by decide +kernel
theorem dX10_isProgram_45 : decode cX10_isProgram 45 = .ok (.getfield 176, 3) := by decide +kernel
theorem dX10_isProgram_48 : decode cX10_isProgram 48 = .ok (.if_icmp .ne 7, 3) := by decide +kernel
theorem dX10_isProgram_51 : decode cX10_isProgram 51 = .ok (.iconst 1, 1) := by decide +kernel
theorem dX10_isProgram_52 : decode cX10_isProgram 52 = .ok (.goto 4, 3) := by decide +kernel
theorem dX10_isProgram_28 : decode cX10_isProgram 28 = .ok (.aload_n 0, 1) := by decide +kernel
theorem dX10_isProgram_29 : decode cX10_isProgram 29 = .ok (.invokevirtual 238, 3) := by decide +kernel
theorem dX10_isProgram_32 : decode cX10_isProgram 32 = .ok (.istore_n 1, 1) := by decide +kernel
theorem dX10_isProgram_33 : decode cX10_isProgram 33 = .ok (.goto (-18), 3) := by decide +kernel
def lp_X10_isProgram_15 (d : MoV) (u_3 : Int32 × MoV) : Nat → Int32 → MoV → Int32 × MoV
  | 0, _, _ => (0, d)
  | n + 1, x1, dL => (if x1 = (0 : Int32) then ((0 : Int32), dL) else (let u_8 : Int32 × MoV := (f_X10_isSign dL (59 : Int32)); (if u_8.1 = (0 : Int32) then (if u_8.2.2.2.2.2.2.2.2.2.2.2.2.2.2.2.2.1 = u_8.2.2.2.2.2.2.2.2.2.2.2.2.2.2.2.1 then ((1 : Int32), u_8.2) else ((0 : Int32), u_8.2)) else (let u_14 : Int32 × MoV := (f_X10_readsCommand u_8.2); (lp_X10_isProgram_15 d u_3 n u_14.1 u_14.2)))))
def okl_lp_X10_isProgram_15 (d : MoV) (u_3 : Int32 × MoV) : Nat → Int32 → MoV → Prop
  | 0, _, _ => False
  | n + 1, x1, dL => (if x1 = (0 : Int32) then True else (ok_X10_isSign dL (59 : Int32) ∧ (let u_8 : Int32 × MoV := (f_X10_isSign dL (59 : Int32)); (if u_8.1 = (0 : Int32) then True else (ok_X10_readsCommand u_8.2 ∧ (let u_14 : Int32 × MoV := (f_X10_readsCommand u_8.2); (okl_lp_X10_isProgram_15 d u_3 n u_14.1 u_14.2)))))))
def f_X10_isProgram (d : MoV) : Int32 × MoV := (let u_3 : Int32 × MoV := (f_X10_readsCommand (mo16 (mo15 d (0 : Int32)) (0 : Int32))); (lp_X10_isProgram_15 d u_3 62 u_3.1 u_3.2))
def ok_X10_isProgram (d : MoV) : Prop := (ok_X10_readsCommand (mo16 (mo15 d (0 : Int32)) (0 : Int32)) ∧ (let u_3 : Int32 × MoV := (f_X10_readsCommand (mo16 (mo15 d (0 : Int32)) (0 : Int32))); (okl_lp_X10_isProgram_15 d u_3 62 u_3.1 u_3.2)))
set_option maxHeartbeats 4000000 in
set_option maxRecDepth 100000 in
theorem c_X10_isProgram (l : Launch) (G : GG) (dh0 : Nat) (dh1 : Nat) (dh2 : Nat) (dh3 : Nat) (dh4 : Nat) (dh5 : Nat) (dh6 : Nat) (dh7 : Nat) (sz : Nat) (d : MoV) (hok : ok_X10_isProgram d) : wMet l yX10_isProgram cX10_isProgram 2 (some .boolean) 9 0 0 G (fl [wMo G dh0 dh1 dh2 dh3 dh4 dh5 dh6 dh7 d]) [.ref dh0] sz (fun u : Int32 × MoV => some (.int u.1)) (fun u : Int32 × MoV => u = f_X10_isProgram d ∧ narrow .boolean (.int ((f_X10_isProgram d).1)) = .int ((f_X10_isProgram d).1)) (fun u : Int32 × MoV => fl [wMo G dh0 dh1 dh2 dh3 dh4 dh5 dh6 dh7 u.2]) := by
  refine w_start (by decide +kernel) (Nat.le_of_ble_eq_true rfl) ?_
  intro p e s m below meth c A hx hb hr hml hts hown hlk hin hP hD hA hK hST ls hl
  have hS : va_S A s.heap s.heap [] := va_S.rf
  have hown : s.vm.findClass RX10 = some m.cls := hown
  have hl : lv_has ls 2 [(0, .ref dh0)] := hl
  have hF : f_X10_isProgram d = (let u_3 : Int32 × MoV := (f_X10_readsCommand (mo16 (mo15 d (0 : Int32)) (0 : Int32))); (lp_X10_isProgram_15 d u_3 62 u_3.1 u_3.2)) := rfl
  have hok : (ok_X10_readsCommand (mo16 (mo15 d (0 : Int32)) (0 : Int32)) ∧ (let u_3 : Int32 × MoV := (f_X10_readsCommand (mo16 (mo15 d (0 : Int32)) (0 : Int32))); (okl_lp_X10_isProgram_15 d u_3 62 u_3.1 u_3.2))) := hok
  refine lv_aload_n hx hb dX10_isProgram_0 rfl (lv_at hl 0 rfl) ?_
  refine lv_iconst (v := (0 : Int32)) hx hb dX10_isProgram_1 (by decide) ?_
  refine va_put (D := G.1) (ci := 12) (v := .int (0 : Int32)) (ty := .int) (C := RX10) (T := TX10) (N := 17) hx hb hts uws_X10 tyX10 tyX10_ok nmX10 hown hK hP hD hS 0 rfl rfl 15 (by decide) (hts _ u_1695) (fun _ h9 => h9) rfl (by decide +kernel) rfl rfl (Nat.le_of_ble_eq_true rfl) dX10_isProgram_2 (fun H locs hP hD hS => ?_)
  have hP : va_P G.1 vwCl (fl [wMo G dh0 dh1 dh2 dh3 dh4 dh5 dh6 dh7 (mo15 d (0 : Int32))]) H := hP
  have hD : va_D A (fl [wMo G dh0 dh1 dh2 dh3 dh4 dh5 dh6 dh7 (mo15 d (0 : Int32))]) := hD
  refine lv_aload_n hx hb dX10_isProgram_5 rfl (lv_at hl 0 rfl) ?_
  refine lv_iconst (v := (0 : Int32)) hx hb dX10_isProgram_6 (by decide) ?_
  refine va_put (D := G.1) (ci := 12) (v := .int (0 : Int32)) (ty := .int) (C := RX10) (T := TX10) (N := 17) hx hb hts uws_X10 tyX10 tyX10_ok nmX10 hown hK hP hD hS 0 rfl rfl 16 (by decide) (hts _ u_1696) (fun _ h9 => h9) rfl (by decide +kernel) rfl rfl (Nat.le_of_ble_eq_true rfl) dX10_isProgram_7 (fun H locs hP hD hS => ?_)
  have hP : va_P G.1 vwCl (fl [wMo G dh0 dh1 dh2 dh3 dh4 dh5 dh6 dh7 (mo16 (mo15 d (0 : Int32)) (0 : Int32))]) H := hP
  have hD : va_D A (fl [wMo G dh0 dh1 dh2 dh3 dh4 dh5 dh6 dh7 (mo16 (mo15 d (0 : Int32)) (0 : Int32))]) := hD
  refine lv_aload_n hx hb dX10_isProgram_10 rfl (lv_at hl 0 rfl) ?_
  have k_1 := hok.1
  have hok := hok.2
  refine w_V (own := RX10) (cs := [wMo G dh0 dh1 dh2 dh3 dh4 dh5 dh6 dh7 (mo16 (mo15 d (0 : Int32)) (0 : Int32))]) (rs := []) (As := []) (rest := []) (c_X10_readsCommand l G dh0 dh1 dh2 dh3 dh4 dh5 dh6 dh7 H.size (mo16 (mo15 d (0 : Int32)) (0 : Int32)) k_1) ⟨hx, hb, hml, hown, hts⟩ g_X10_238 hdv_X10_readsCommand hK hST hS hP hD hA [0] [] rfl rfl rfl (k0 := 0) rfl rfl rfl ⟨Nat.le_of_ble_eq_true rfl, Nat.le_of_ble_eq_true rfl⟩ ⟨Nat.le_of_ble_eq_true rfl, Nat.le_of_ble_eq_true rfl⟩ rfl hl.1 rfl (Nat.le_of_ble_eq_true rfl) dX10_isProgram_11 (fun u_3 H locs huu hP hD hS => ?_)
  obtain ⟨huu, b_2⟩ := huu
  rw [← huu] at b_2
  have eu_3 := huu
  have hP : va_P G.1 vwCl (fl [wMo G dh0 dh1 dh2 dh3 dh4 dh5 dh6 dh7 u_3.2]) H := hP
  have hD : va_D A (fl [wMo G dh0 dh1 dh2 dh3 dh4 dh5 dh6 dh7 u_3.2]) := hD
  refine W.eq (g2 := F0 m 14 ls [.int u_3.1]) rfl ?_
  have hF : f_X10_isProgram d = (lp_X10_isProgram_15 d u_3 62 u_3.1 u_3.2) := by subst eu_3; exact hF
  have hok : (okl_lp_X10_isProgram_15 d u_3 62 u_3.1 u_3.2) := by subst eu_3; exact hok
  refine lv_istore_n (lv' := [(1, .int u_3.1), (0, .ref dh0)]) hx hb dX10_isProgram_14 rfl hl (by decide) rfl (fun ls hl => ?_)
  have L15 : ∀ (n : Nat) (x1 : Int32) (dL : MoV) (H : Heap) (locs : List Loc) (ls : Array Slot), lv_has ls 2 [(1, .int x1), (0, .ref dh0)] → va_P G.1 vwCl (fl [wMo G dh0 dh1 dh2 dh3 dh4 dh5 dh6 dh7 dL]) H → va_D A (fl [wMo G dh0 dh1 dh2 dh3 dh4 dh5 dh6 dh7 dL]) → va_S A s.heap H locs → (True) → f_X10_isProgram d = lp_X10_isProgram_15 d u_3 n x1 dL → okl_lp_X10_isProgram_15 d u_3 n x1 dL → W p l e (rmd 9 0 0) s m ([.ref dh0] : List Value).toArray below meth c H locs 0 0 (MQ below (wQ (fun u : Int32 × MoV => some (.int u.1)) (fun u : Int32 × MoV => u = f_X10_isProgram d ∧ narrow .boolean (.int ((f_X10_isProgram d).1)) = .int ((f_X10_isProgram d).1)) (fun u : Int32 × MoV => fl [wMo G dh0 dh1 dh2 dh3 dh4 dh5 dh6 dh7 u.2]) G.1 A) ([.ref dh0] : List Value).toArray s 0 0 A) (F0 m 15 ls []) := by
    intro n
    induction n with
    | zero => intro x1 dL H locs ls hl _ _ _ hu hF hok; exact hok.elim
    | succ n ih =>
      intro x1 dL H locs ls hl hP hD hS hu hF hok
      have hF : f_X10_isProgram d = (if x1 = (0 : Int32) then ((0 : Int32), dL) else (let u_8 : Int32 × MoV := (f_X10_isSign dL (59 : Int32)); (if u_8.1 = (0 : Int32) then (if u_8.2.2.2.2.2.2.2.2.2.2.2.2.2.2.2.2.1 = u_8.2.2.2.2.2.2.2.2.2.2.2.2.2.2.2.1 then ((1 : Int32), u_8.2) else ((0 : Int32), u_8.2)) else (let u_14 : Int32 × MoV := (f_X10_readsCommand u_8.2); (lp_X10_isProgram_15 d u_3 n u_14.1 u_14.2))))) := hF
      have hok : (if x1 = (0 : Int32) then True else (ok_X10_isSign dL (59 : Int32) ∧ (let u_8 : Int32 × MoV := (f_X10_isSign dL (59 : Int32)); (if u_8.1 = (0 : Int32) then True else (ok_X10_readsCommand u_8.2 ∧ (let u_14 : Int32 × MoV := (f_X10_readsCommand u_8.2); (okl_lp_X10_isProgram_15 d u_3 n u_14.1 u_14.2))))))) := hok
      refine lv_iload_n hx hb dX10_isProgram_15 rfl (lv_at hl 0 rfl) ?_
      refine lv_if_eq (tgt := 36) hx hb dX10_isProgram_16 (by decide) (fun c_4 => ?_) (fun c_4 => ?_)
      · have hF := hF.trans (if_pos c_4)
        have hok := Eq.mp (if_pos c_4) hok
        refine lv_iload_n hx hb dX10_isProgram_36 rfl (lv_at hl 0 rfl) ?_
        refine lv_if_eq (tgt := 55) hx hb dX10_isProgram_37 (by decide) (fun c_5 => ?_) (fun c_5 => ?_)
        · refine lv_iconst (v := (0 : Int32)) hx hb dX10_isProgram_55 (by decide) ?_
          exact w_ret (u := ((0 : Int32), dL)) hx hb hr hlk rfl hS rfl ⟨hF.symm, (by rw [hF]; exact (rfl : narrow .boolean (.int (0 : Int32)) = .int (0 : Int32)))⟩ hP hD (Nat.le_of_ble_eq_true rfl) (Nat.le_of_ble_eq_true rfl) dX10_isProgram_56
        · exact absurd c_4 c_5
      · have hF := hF.trans (if_neg c_4)
        have hok := Eq.mp (if_neg c_4) hok
        refine lv_aload_n hx hb dX10_isProgram_19 rfl (lv_at hl 1 rfl) ?_
        refine lv_bipush (v := (59 : Int32)) hx hb dX10_isProgram_20 (by decide) ?_
        have k_6 := hok.1
        have hok := hok.2
        refine w_V (own := RX10) (cs := [wMo G dh0 dh1 dh2 dh3 dh4 dh5 dh6 dh7 dL]) (rs := []) (As := [.int (59 : Int32)]) (rest := []) (c_X10_isSign l G dh0 dh1 dh2 dh3 dh4 dh5 dh6 dh7 H.size dL (59 : Int32) k_6) ⟨hx, hb, hml, hown, hts⟩ g_X10_194 hdv_X10_isSign hK hST hS hP hD hA [0] [] rfl rfl rfl (k0 := 0) rfl rfl rfl ⟨Nat.le_of_ble_eq_true rfl, Nat.le_of_ble_eq_true rfl⟩ ⟨Nat.le_of_ble_eq_true rfl, Nat.le_of_ble_eq_true rfl⟩ rfl hl.1 rfl (Nat.le_of_ble_eq_true rfl) dX10_isProgram_22 (fun u_8 H locs huu hP hD hS => ?_)
        obtain ⟨huu, b_7⟩ := huu
        rw [← huu] at b_7
        have eu_8 := huu
        have hP : va_P G.1 vwCl (fl [wMo G dh0 dh1 dh2 dh3 dh4 dh5 dh6 dh7 u_8.2]) H := hP
        have hD : va_D A (fl [wMo G dh0 dh1 dh2 dh3 dh4 dh5 dh6 dh7 u_8.2]) := hD
        refine W.eq (g2 := F0 m 25 ls [.int u_8.1]) rfl ?_
        have hF : f_X10_isProgram d = (if u_8.1 = (0 : Int32) then (if u_8.2.2.2.2.2.2.2.2.2.2.2.2.2.2.2.2.1 = u_8.2.2.2.2.2.2.2.2.2.2.2.2.2.2.2.1 then ((1 : Int32), u_8.2) else ((0 : Int32), u_8.2)) else (let u_14 : Int32 × MoV := (f_X10_readsCommand u_8.2); (lp_X10_isProgram_15 d u_3 n u_14.1 u_14.2))) := by subst eu_8; exact hF
        have hok : (if u_8.1 = (0 : Int32) then True else (ok_X10_readsCommand u_8.2 ∧ (let u_14 : Int32 × MoV := (f_X10_readsCommand u_8.2); (okl_lp_X10_isProgram_15 d u_3 n u_14.1 u_14.2)))) := by subst eu_8; exact hok
        refine lv_if_eq (tgt := 36) hx hb dX10_isProgram_25 (by decide) (fun c_9 => ?_) (fun c_9 => ?_)
        · have hF := hF.trans (if_pos c_9)
          have hok := Eq.mp (if_pos c_9) hok
          refine lv_iload_n hx hb dX10_isProgram_36 rfl (lv_at hl 0 rfl) ?_
          refine lv_if_eq (tgt := 55) hx hb dX10_isProgram_37 (by decide) (fun c_10 => ?_) (fun c_10 => ?_)
          · exact absurd c_10 c_4
          · refine lv_aload_n hx hb dX10_isProgram_40 rfl (lv_at hl 1 rfl) ?_
            refine va_get (D := G.1) (ci := 12) (v := .int u_8.2.2.2.2.2.2.2.2.2.2.2.2.2.2.2.2.1) (C := RX10) (T := TX10) (N := 17) hx hb hts uws_X10 hown hK hP 0 rfl rfl 15 (by decide) (hts _ u_1695) (fun _ h9 => h9) rfl dX10_isProgram_41 ?_
            refine lv_aload_n hx hb dX10_isProgram_44 rfl (lv_at hl 1 rfl) ?_
            refine va_get (D := G.1) (ci := 12) (v := .int u_8.2.2.2.2.2.2.2.2.2.2.2.2.2.2.2.1) (C := RX10) (T := TX10) (N := 17) hx hb hts uws_X10 hown hK hP 0 rfl rfl 14 (by decide) (hts _ u_1694) (fun _ h9 => h9) rfl dX10_isProgram_45 ?_
            refine lv_icmp_ne (tgt := 55) hx hb dX10_isProgram_48 (by decide) (fun c_11 => ?_) (fun c_11 => ?_)
            · have hF := hF.trans (if_neg c_11)
              refine lv_iconst (v := (0 : Int32)) hx hb dX10_isProgram_55 (by decide) ?_
              exact w_ret (u := ((0 : Int32), u_8.2)) hx hb hr hlk rfl hS rfl ⟨hF.symm, (by rw [hF]; exact (rfl : narrow .boolean (.int (0 : Int32)) = .int (0 : Int32)))⟩ hP hD (Nat.le_of_ble_eq_true rfl) (Nat.le_of_ble_eq_true rfl) dX10_isProgram_56
            · have hF := hF.trans (if_pos c_11)
              refine lv_iconst (v := (1 : Int32)) hx hb dX10_isProgram_51 (by decide) ?_
              refine lv_goto (tgt := 56) hx hb dX10_isProgram_52 (by decide) ?_
              exact w_ret (u := ((1 : Int32), u_8.2)) hx hb hr hlk rfl hS rfl ⟨hF.symm, (by rw [hF]; exact (rfl : narrow .boolean (.int (1 : Int32)) = .int (1 : Int32)))⟩ hP hD (Nat.le_of_ble_eq_true rfl) (Nat.le_of_ble_eq_true rfl) dX10_isProgram_56
        · have hF := hF.trans (if_neg c_9)
          have hok := Eq.mp (if_neg c_9) hok
          refine lv_aload_n hx hb dX10_isProgram_28 rfl (lv_at hl 1 rfl) ?_
          have k_12 := hok.1
          have hok := hok.2
          refine w_V (own := RX10) (cs := [wMo G dh0 dh1 dh2 dh3 dh4 dh5 dh6 dh7 u_8.2]) (rs := []) (As := []) (rest := []) (c_X10_readsCommand l G dh0 dh1 dh2 dh3 dh4 dh5 dh6 dh7 H.size u_8.2 k_12) ⟨hx, hb, hml, hown, hts⟩ g_X10_238 hdv_X10_readsCommand hK hST hS hP hD hA [0] [] rfl rfl rfl (k0 := 0) rfl rfl rfl ⟨Nat.le_of_ble_eq_true rfl, Nat.le_of_ble_eq_true rfl⟩ ⟨Nat.le_of_ble_eq_true rfl, Nat.le_of_ble_eq_true rfl⟩ rfl hl.1 rfl (Nat.le_of_ble_eq_true rfl) dX10_isProgram_29 (fun u_14 H locs huu hP hD hS => ?_)
          obtain ⟨huu, b_13⟩ := huu
          rw [← huu] at b_13
          have eu_14 := huu
          have hP : va_P G.1 vwCl (fl [wMo G dh0 dh1 dh2 dh3 dh4 dh5 dh6 dh7 u_14.2]) H := hP
          have hD : va_D A (fl [wMo G dh0 dh1 dh2 dh3 dh4 dh5 dh6 dh7 u_14.2]) := hD
          refine W.eq (g2 := F0 m 32 ls [.int u_14.1]) rfl ?_
          have hF : f_X10_isProgram d = (lp_X10_isProgram_15 d u_3 n u_14.1 u_14.2) := by subst eu_14; exact hF
          have hok : (okl_lp_X10_isProgram_15 d u_3 n u_14.1 u_14.2) := by subst eu_14; exact hok
          refine lv_istore_n (lv' := [(1, .int u_14.1), (0, .ref dh0)]) hx hb dX10_isProgram_32 rfl hl (by decide) rfl (fun ls hl => ?_)
          refine lv_goto (tgt := 15) hx hb dX10_isProgram_33 (by decide) ?_
          exact ih u_14.1 u_14.2 _ _ ls (lv_sub hl [0, 1] rfl) hP hD hS (trivial) hF hok
  exact L15 62 u_3.1 u_3.2 _ _ ls (lv_sub hl [0, 1] rfl) hP hD hS (trivial) hF hok
