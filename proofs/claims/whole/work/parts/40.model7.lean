theorem dX10_puts_0 : decode cX10_puts 0 = .ok (.aload_n 0, 1) := by decide +kernel
theorem dX10_puts_1 : decode cX10_puts 1 = .ok (.getfield 29, 3) := by decide +kernel
theorem u_1690 : Cond.fieldLink RX10 29 "MoonlitDoorsModel" "line" "[I" ∈ UW := uw 1690 (by decide +kernel) rfl
theorem dX10_puts_4 : decode cX10_puts 4 = .ok (.aload_n 0, 1) := by decide +kernel
theorem dX10_puts_5 : decode cX10_puts 5 = .ok (.getfield 166, 3) := by decide +kernel
theorem u_1691 : Cond.fieldLink RX10 166 "MoonlitDoorsModel" "lined" "I" ∈ UW := uw 1691 (by decide +kernel) rfl
theorem dX10_puts_8 : decode cX10_puts 8 = .ok (.iload_n 1, 1) := by decide +kernel
theorem dX10_puts_9 : decode cX10_puts 9 = .ok (.iastore, 1) := by decide +kernel
theorem dX10_puts_10 : decode cX10_puts 10 = .ok (.aload_n 0, 1) := by decide +kernel
theorem dX10_puts_11 : decode cX10_puts 11 = .ok (.dup, 1) := by decide +kernel
theorem dX10_puts_12 : decode cX10_puts 12 = .ok (.getfield 166, 3) := by decide +kernel
theorem dX10_puts_15 : decode cX10_puts 15 = .ok (.iconst 1, 1) := by decide +kernel
theorem dX10_puts_16 : decode cX10_puts 16 = .ok (.iadd, 1) := by decide +kernel
theorem dX10_puts_17 : decode cX10_puts 17 = .ok (.putfield 166, 3) := by decide +kernel
theorem dX10_puts_20 : decode cX10_puts 20 = .ok (.return_, 1) := by decide +kernel
def f_X10_puts (d : MoV) (i : Int32) : MoV := (mo11 (mo10 d (upd d.2.2.2.2.2.2.2.2.2.2.1 d.2.2.2.2.2.2.2.2.2.2.2.1.toNatClampNeg i)) (d.2.2.2.2.2.2.2.2.2.2.2.1 + (1 : Int32)))
def ok_X10_puts (d : MoV) (i : Int32) : Prop := (vp_in d.2.2.2.2.2.2.2.2.2.2.2.1 40 ∧ True)
set_option maxHeartbeats 4000000 in
set_option maxRecDepth 100000 in
theorem c_X10_puts (l : Launch) (G : GG) (dh0 : Nat) (dh1 : Nat) (dh2 : Nat) (dh3 : Nat) (dh4 : Nat) (dh5 : Nat) (dh6 : Nat) (dh7 : Nat) (sz : Nat) (d : MoV) (i : Int32) (hok : ok_X10_puts d i) : wMet l yX10_puts cX10_puts 2 none 1 0 0 G (fl [wMo G dh0 dh1 dh2 dh3 dh4 dh5 dh6 dh7 d]) [.ref dh0, .int i] sz (fun u : MoV => none) (fun u : MoV => u = f_X10_puts d i) (fun u : MoV => fl [wMo G dh0 dh1 dh2 dh3 dh4 dh5 dh6 dh7 u]) := by
  refine w_start (by decide +kernel) (Nat.le_of_ble_eq_true rfl) ?_
  intro p e s m below meth c A hx hb hr hml hts hown hlk hin hP hD hA hK hST ls hl
  have hS : va_S A s.heap s.heap [] := va_S.rf
  have hown : s.vm.findClass RX10 = some m.cls := hown
  have hl : lv_has ls 2 [(0, .ref dh0), (1, .int i)] := hl
  have hF : f_X10_puts d i = (mo11 (mo10 d (upd d.2.2.2.2.2.2.2.2.2.2.1 d.2.2.2.2.2.2.2.2.2.2.2.1.toNatClampNeg i)) (d.2.2.2.2.2.2.2.2.2.2.2.1 + (1 : Int32))) := rfl
  have hok : (vp_in d.2.2.2.2.2.2.2.2.2.2.2.1 40 ∧ True) := hok
  refine lv_aload_n hx hb dX10_puts_0 rfl (lv_at hl 0 rfl) ?_
  refine va_get (D := G.1) (ci := 12) (v := .ref dh5) (C := RX10) (T := TX10) (N := 17) hx hb hts uws_X10 hown hK hP 0 rfl rfl 10 (by decide) (hts _ u_1690) (fun _ h9 => h9) rfl dX10_puts_1 ?_
  refine lv_aload_n hx hb dX10_puts_4 rfl (lv_at hl 0 rfl) ?_
  refine va_get (D := G.1) (ci := 12) (v := .int d.2.2.2.2.2.2.2.2.2.2.2.1) (C := RX10) (T := TX10) (N := 17) hx hb hts uws_X10 hown hK hP 0 rfl rfl 11 (by decide) (hts _ u_1691) (fun _ h9 => h9) rfl dX10_puts_5 ?_
  refine lv_iload_n hx hb dX10_puts_8 rfl (lv_at hl 1 rfl) ?_
  have h_1 := hok.1
  have hok := hok.2
  refine va_iast hx hb hK hP hD hS 5 0 rfl rfl h_1 dX10_puts_9 (fun H locs hP hD hS => ?_)
  have hP : va_P G.1 vwCl (fl [wMo G dh0 dh1 dh2 dh3 dh4 dh5 dh6 dh7 (mo10 d (upd d.2.2.2.2.2.2.2.2.2.2.1 d.2.2.2.2.2.2.2.2.2.2.2.1.toNatClampNeg i))]) H := hP
  have hD : va_D A (fl [wMo G dh0 dh1 dh2 dh3 dh4 dh5 dh6 dh7 (mo10 d (upd d.2.2.2.2.2.2.2.2.2.2.1 d.2.2.2.2.2.2.2.2.2.2.2.1.toNatClampNeg i))]) := hD
  refine lv_aload_n hx hb dX10_puts_10 rfl (lv_at hl 0 rfl) ?_
  refine lv_dup hx hb dX10_puts_11 rfl ?_
  refine va_get (D := G.1) (ci := 12) (v := .int d.2.2.2.2.2.2.2.2.2.2.2.1) (C := RX10) (T := TX10) (N := 17) hx hb hts uws_X10 hown hK hP 0 rfl rfl 11 (by decide) (hts _ u_1691) (fun _ h9 => h9) rfl dX10_puts_12 ?_
  refine lv_iconst (v := (1 : Int32)) hx hb dX10_puts_15 (by decide) ?_
  refine lv_iadd hx hb dX10_puts_16 ?_
  refine va_put (D := G.1) (ci := 12) (v := .int (d.2.2.2.2.2.2.2.2.2.2.2.1 + (1 : Int32))) (ty := .int) (C := RX10) (T := TX10) (N := 17) hx hb hts uws_X10 tyX10 tyX10_ok nmX10 hown hK hP hD hS 0 rfl rfl 11 (by decide) (hts _ u_1691) (fun _ h9 => h9) rfl (by decide +kernel) rfl rfl (Nat.le_of_ble_eq_true rfl) dX10_puts_17 (fun H locs hP hD hS => ?_)
  have hP : va_P G.1 vwCl (fl [wMo G dh0 dh1 dh2 dh3 dh4 dh5 dh6 dh7 (mo11 (mo10 d (upd d.2.2.2.2.2.2.2.2.2.2.1 d.2.2.2.2.2.2.2.2.2.2.2.1.toNatClampNeg i)) (d.2.2.2.2.2.2.2.2.2.2.2.1 + (1 : Int32)))]) H := hP
  have hD : va_D A (fl [wMo G dh0 dh1 dh2 dh3 dh4 dh5 dh6 dh7 (mo11 (mo10 d (upd d.2.2.2.2.2.2.2.2.2.2.1 d.2.2.2.2.2.2.2.2.2.2.2.1.toNatClampNeg i)) (d.2.2.2.2.2.2.2.2.2.2.2.1 + (1 : Int32)))]) := hD
  exact w_retV (u := (mo11 (mo10 d (upd d.2.2.2.2.2.2.2.2.2.2.1 d.2.2.2.2.2.2.2.2.2.2.2.1.toNatClampNeg i)) (d.2.2.2.2.2.2.2.2.2.2.2.1 + (1 : Int32)))) hx hb hr hlk hS rfl hF.symm hP hD (Nat.le_of_ble_eq_true rfl) (Nat.le_of_ble_eq_true rfl) dX10_puts_20
theorem dX10_number_0 : decode cX10_number 0 = .ok (.iload_n 1, 1) := by decide +kernel
theorem dX10_number_1 : decode cX10_number 1 = .ok (.bipush 10, 2) := by decide +kernel
theorem dX10_number_3 : decode cX10_number 3 = .ok (.if_icmp .lt 11, 3) := by decide +kernel
theorem dX10_number_14 : decode cX10_number 14 = .ok (.aload_n 0, 1) := by decide +kernel
theorem dX10_number_15 : decode cX10_number 15 = .ok (.bipush 48, 2) := by decide +kernel
theorem dX10_number_17 : decode cX10_number 17 = .ok (.iload_n 1, 1) := by decide +kernel
theorem dX10_number_18 : decode cX10_number 18 = .ok (.bipush 10, 2) := by decide +kernel
theorem dX10_number_20 : decode cX10_number 20 = .ok (.irem, 1) := by decide +kernel
theorem dX10_number_21 : decode cX10_number 21 = .ok (.iadd, 1) := by decide +kernel
theorem dX10_number_22 : decode cX10_number 22 = .ok (.invokevirtual 173, 3) := by decide +kernel
theorem u_2048 : Cond.methodLink RX10 173 yX10_puts ∈ UW := uw 2048 (by decide +kernel) rfl
theorem u_2050 : Cond.instanceMethod yX10_puts ∈ UW := uw 2050 (by decide +kernel) rfl
theorem u_51 : Cond.selects RX10 yX10_puts yX10_puts ∈ UW := uw 51 (by decide +kernel) rfl
theorem u_2051 : Cond.code yX10_puts cX10_puts 2 none ∈ UW := uw 2051 (by decide +kernel) rfl
theorem g_X10_173 : GoodIn UW (wsV RX10 173 RX10 yX10_puts (wsU yX10_puts cX10_puts 2 none)) := gV u_2048 u_2050 u_51 u_77 u_2051
theorem hdv_X10_puts : yX10_puts.cls = RX10 ∧ yX10_puts.cls ≠ "java/lang/invoke/MethodHandle" ∧ yX10_puts.cls ≠ "java/lang/invoke/VarHandle" ∧ (parseMethodDescriptor yX10_puts.desc).map (fun d => d.parameters.length) = some 1 := by decide +kernel
theorem dX10_number_25 : decode cX10_number 25 = .ok (.return_, 1) := by decide +kernel
def f_X10_number0 (d : MoV) (i : Int32) : MoV := (if i < (10 : Int32) then (let u_4 : MoV := (f_X10_puts d ((48 : Int32) + (i - i / (10 : Int32) * (10 : Int32)))); u_4) else d)
def ok_X10_number0 (d : MoV) (i : Int32) : Prop := (if i < (10 : Int32) then (ok_X10_puts d ((48 : Int32) + (i - i / (10 : Int32) * (10 : Int32))) ∧ True) else False)
set_option maxHeartbeats 4000000 in
set_option maxRecDepth 100000 in
theorem c_X10_number0 (l : Launch) (G : GG) (dh0 : Nat) (dh1 : Nat) (dh2 : Nat) (dh3 : Nat) (dh4 : Nat) (dh5 : Nat) (dh6 : Nat) (dh7 : Nat) (sz : Nat) (d : MoV) (i : Int32) (hok : ok_X10_number0 d i) : wMet l yX10_number cX10_number 2 none 2 0 0 G (fl [wMo G dh0 dh1 dh2 dh3 dh4 dh5 dh6 dh7 d]) [.ref dh0, .int i] sz (fun u : MoV => none) (fun u : MoV => u = f_X10_number0 d i) (fun u : MoV => fl [wMo G dh0 dh1 dh2 dh3 dh4 dh5 dh6 dh7 u]) := by
  refine w_start (by decide +kernel) (Nat.le_of_ble_eq_true rfl) ?_
  intro p e s m below meth c A hx hb hr hml hts hown hlk hin hP hD hA hK hST ls hl
  have hS : va_S A s.heap s.heap [] := va_S.rf
  have hown : s.vm.findClass RX10 = some m.cls := hown
  have hl : lv_has ls 2 [(0, .ref dh0), (1, .int i)] := hl
  have hF : f_X10_number0 d i = (if i < (10 : Int32) then (let u_4 : MoV := (f_X10_puts d ((48 : Int32) + (i - i / (10 : Int32) * (10 : Int32)))); u_4) else d) := rfl
  have hok : (if i < (10 : Int32) then (ok_X10_puts d ((48 : Int32) + (i - i / (10 : Int32) * (10 : Int32))) ∧ True) else False) := hok
  refine lv_iload_n hx hb dX10_number_0 rfl (lv_at hl 1 rfl) ?_
  refine lv_bipush (v := (10 : Int32)) hx hb dX10_number_1 (by decide) ?_
  refine lv_icmp_lt (tgt := 14) hx hb dX10_number_3 (by decide) (fun c_1 => ?_) (fun c_1 => ?_)
  · have hF := hF.trans (if_pos c_1)
    have hok := Eq.mp (if_pos c_1) hok
    refine lv_aload_n hx hb dX10_number_14 rfl (lv_at hl 0 rfl) ?_
    refine lv_bipush (v := (48 : Int32)) hx hb dX10_number_15 (by decide) ?_
    refine lv_iload_n hx hb dX10_number_17 rfl (lv_at hl 1 rfl) ?_
    refine lv_bipush (v := (10 : Int32)) hx hb dX10_number_18 (by decide) ?_
    refine lv_irem hx hb dX10_number_20 (by decide) ?_
    refine lv_iadd hx hb dX10_number_21 ?_
    have k_2 := hok.1
    have hok := hok.2
    refine w_V (own := RX10) (cs := [wMo G dh0 dh1 dh2 dh3 dh4 dh5 dh6 dh7 d]) (rs := []) (As := [.int ((48 : Int32) + (i - i / (10 : Int32) * (10 : Int32)))]) (rest := []) (c_X10_puts l G dh0 dh1 dh2 dh3 dh4 dh5 dh6 dh7 s.heap.size d ((48 : Int32) + (i - i / (10 : Int32) * (10 : Int32))) k_2) ⟨hx, hb, hml, hown, hts⟩ g_X10_173 hdv_X10_puts hK hST hS hP hD hA [0] [] rfl rfl rfl (k0 := 0) rfl rfl rfl ⟨Nat.le_of_ble_eq_true rfl, Nat.le_of_ble_eq_true rfl⟩ ⟨Nat.le_of_ble_eq_true rfl, Nat.le_of_ble_eq_true rfl⟩ rfl hl.1 rfl (Nat.le_of_ble_eq_true rfl) dX10_number_22 (fun u_4 H locs huu hP hD hS => ?_)
    have eu_4 := huu
    have hP : va_P G.1 vwCl (fl [wMo G dh0 dh1 dh2 dh3 dh4 dh5 dh6 dh7 u_4]) H := hP
    have hD : va_D A (fl [wMo G dh0 dh1 dh2 dh3 dh4 dh5 dh6 dh7 u_4]) := hD
    refine W.eq (g2 := F0 m 25 ls []) rfl ?_
    have hF : f_X10_number0 d i = u_4 := by subst eu_4; exact hF
    exact w_retV (u := u_4) hx hb hr hlk hS rfl hF.symm hP hD (Nat.le_of_ble_eq_true rfl) (Nat.le_of_ble_eq_true rfl) dX10_number_25
  · have hF := hF.trans (if_neg c_1)
    have hok := Eq.mp (if_neg c_1) hok
    exact hok.elim
theorem dX10_number_6 : decode cX10_number 6 = .ok (.aload_n 0, 1) := by decide +kernel
theorem dX10_number_7 : decode cX10_number 7 = .ok (.iload_n 1, 1) := by decide +kernel
theorem dX10_number_8 : decode cX10_number 8 = .ok (.bipush 10, 2) := by decide +kernel
theorem dX10_number_10 : decode cX10_number 10 = .ok (.idiv, 1) := by decide +kernel
theorem dX10_number_11 : decode cX10_number 11 = .ok (.invokevirtual 169, 3) := by decide +kernel
theorem u_2052 : Cond.methodLink RX10 169 yX10_number ∈ UW := uw 2052 (by decide +kernel) rfl
theorem u_2054 : Cond.instanceMethod yX10_number ∈ UW := uw 2054 (by decide +kernel) rfl
theorem u_52 : Cond.selects RX10 yX10_number yX10_number ∈ UW := uw 52 (by decide +kernel) rfl
theorem u_2055 : Cond.code yX10_number cX10_number 2 none ∈ UW := uw 2055 (by decide +kernel) rfl
theorem g_X10_169 : GoodIn UW (wsV RX10 169 RX10 yX10_number (wsU yX10_number cX10_number 2 none)) := gV u_2052 u_2054 u_52 u_77 u_2055
theorem hdv_X10_number : yX10_number.cls = RX10 ∧ yX10_number.cls ≠ "java/lang/invoke/MethodHandle" ∧ yX10_number.cls ≠ "java/lang/invoke/VarHandle" ∧ (parseMethodDescriptor yX10_number.desc).map (fun d => d.parameters.length) = some 1 := by decide +kernel
def f_X10_number (d : MoV) (i : Int32) : MoV := (if i < (10 : Int32) then (let u_4 : MoV := (f_X10_puts d ((48 : Int32) + (i - i / (10 : Int32) * (10 : Int32)))); u_4) else (let u_7 : MoV := (f_X10_number0 d (i / (10 : Int32))); (let u_10 : MoV := (f_X10_puts u_7 ((48 : Int32) + (i - i / (10 : Int32) * (10 : Int32)))); u_10)))
def ok_X10_number (d : MoV) (i : Int32) : Prop := (if i < (10 : Int32) then (ok_X10_puts d ((48 : Int32) + (i - i / (10 : Int32) * (10 : Int32))) ∧ True) else (ok_X10_number0 d (i / (10 : Int32)) ∧ (let u_7 : MoV := (f_X10_number0 d (i / (10 : Int32))); (ok_X10_puts u_7 ((48 : Int32) + (i - i / (10 : Int32) * (10 : Int32))) ∧ True))))
set_option maxHeartbeats 4000000 in
set_option maxRecDepth 100000 in
theorem c_X10_number (l : Launch) (G : GG) (dh0 : Nat) (dh1 : Nat) (dh2 : Nat) (dh3 : Nat) (dh4 : Nat) (dh5 : Nat) (dh6 : Nat) (dh7 : Nat) (sz : Nat) (d : MoV) (i : Int32) (hok : ok_X10_number d i) : wMet l yX10_number cX10_number 2 none 3 0 0 G (fl [wMo G dh0 dh1 dh2 dh3 dh4 dh5 dh6 dh7 d]) [.ref dh0, .int i] sz (fun u : MoV => none) (fun u : MoV => u = f_X10_number d i) (fun u : MoV => fl [wMo G dh0 dh1 dh2 dh3 dh4 dh5 dh6 dh7 u]) := by
  refine w_start (by decide +kernel) (Nat.le_of_ble_eq_true rfl) ?_
  intro p e s m below meth c A hx hb hr hml hts hown hlk hin hP hD hA hK hST ls hl
  have hS : va_S A s.heap s.heap [] := va_S.rf
  have hown : s.vm.findClass RX10 = some m.cls := hown
  have hl : lv_has ls 2 [(0, .ref dh0), (1, .int i)] := hl
  have hF : f_X10_number d i = (if i < (10 : Int32) then (let u_4 : MoV := (f_X10_puts d ((48 : Int32) + (i - i / (10 : Int32) * (10 : Int32)))); u_4) else (let u_7 : MoV := (f_X10_number0 d (i / (10 : Int32))); (let u_10 : MoV := (f_X10_puts u_7 ((48 : Int32) + (i - i / (10 : Int32) * (10 : Int32)))); u_10))) := rfl
  have hok : (if i < (10 : Int32) then (ok_X10_puts d ((48 : Int32) + (i - i / (10 : Int32) * (10 : Int32))) ∧ True) else (ok_X10_number0 d (i / (10 : Int32)) ∧ (let u_7 : MoV := (f_X10_number0 d (i / (10 : Int32))); (ok_X10_puts u_7 ((48 : Int32) + (i - i / (10 : Int32) * (10 : Int32))) ∧ True)))) := hok
  refine lv_iload_n hx hb dX10_number_0 rfl (lv_at hl 1 rfl) ?_
  refine lv_bipush (v := (10 : Int32)) hx hb dX10_number_1 (by decide) ?_
  refine lv_icmp_lt (tgt := 14) hx hb dX10_number_3 (by decide) (fun c_1 => ?_) (fun c_1 => ?_)
  · have hF := hF.trans (if_pos c_1)
    have hok := Eq.mp (if_pos c_1) hok
    refine lv_aload_n hx hb dX10_number_14 rfl (lv_at hl 0 rfl) ?_
    refine lv_bipush (v := (48 : Int32)) hx hb dX10_number_15 (by decide) ?_
    refine lv_iload_n hx hb dX10_number_17 rfl (lv_at hl 1 rfl) ?_
    refine lv_bipush (v := (10 : Int32)) hx hb dX10_number_18 (by decide) ?_
    refine lv_irem hx hb dX10_number_20 (by decide) ?_
    refine lv_iadd hx hb dX10_number_21 ?_
    have k_2 := hok.1
    have hok := hok.2
    refine w_V (own := RX10) (cs := [wMo G dh0 dh1 dh2 dh3 dh4 dh5 dh6 dh7 d]) (rs := []) (As := [.int ((48 : Int32) + (i - i / (10 : Int32) * (10 : Int32)))]) (rest := []) (c_X10_puts l G dh0 dh1 dh2 dh3 dh4 dh5 dh6 dh7 s.heap.size d ((48 : Int32) + (i - i / (10 : Int32) * (10 : Int32))) k_2) ⟨hx, hb, hml, hown, hts⟩ g_X10_173 hdv_X10_puts hK hST hS hP hD hA [0] [] rfl rfl rfl (k0 := 0) rfl rfl rfl ⟨Nat.le_of_ble_eq_true rfl, Nat.le_of_ble_eq_true rfl⟩ ⟨Nat.le_of_ble_eq_true rfl, Nat.le_of_ble_eq_true rfl⟩ rfl hl.1 rfl (Nat.le_of_ble_eq_true rfl) dX10_number_22 (fun u_4 H locs huu hP hD hS => ?_)
    have eu_4 := huu
    have hP : va_P G.1 vwCl (fl [wMo G dh0 dh1 dh2 dh3 dh4 dh5 dh6 dh7 u_4]) H := hP
    have hD : va_D A (fl [wMo G dh0 dh1 dh2 dh3 dh4 dh5 dh6 dh7 u_4]) := hD
    refine W.eq (g2 := F0 m 25 ls []) rfl ?_
    have hF : f_X10_number d i = u_4 := by subst eu_4; exact hF
    exact w_retV (u := u_4) hx hb hr hlk hS rfl hF.symm hP hD (Nat.le_of_ble_eq_true rfl) (Nat.le_of_ble_eq_true rfl) dX10_number_25
  · have hF := hF.trans (if_neg c_1)
    have hok := Eq.mp (if_neg c_1) hok
    refine lv_aload_n hx hb dX10_number_6 rfl (lv_at hl 0 rfl) ?_
    refine lv_iload_n hx hb dX10_number_7 rfl (lv_at hl 1 rfl) ?_
    refine lv_bipush (v := (10 : Int32)) hx hb dX10_number_8 (by decide) ?_
    refine lv_idiv hx hb dX10_number_10 (by decide) ?_
    have k_5 := hok.1
    have hok := hok.2
    refine w_V (own := RX10) (cs := [wMo G dh0 dh1 dh2 dh3 dh4 dh5 dh6 dh7 d]) (rs := []) (As := [.int (i / (10 : Int32))]) (rest := []) (c_X10_number0 l G dh0 dh1 dh2 dh3 dh4 dh5 dh6 dh7 s.heap.size d (i / (10 : Int32)) k_5) ⟨hx, hb, hml, hown, hts⟩ g_X10_169 hdv_X10_number hK hST hS hP hD hA [0] [] rfl rfl rfl (k0 := 0) rfl rfl rfl ⟨Nat.le_of_ble_eq_true rfl, Nat.le_of_ble_eq_true rfl⟩ ⟨Nat.le_of_ble_eq_true rfl, Nat.le_of_ble_eq_true rfl⟩ rfl hl.1 rfl (Nat.le_of_ble_eq_true rfl) dX10_number_11 (fun u_7 H locs huu hP hD hS => ?_)
    have eu_7 := huu
    have hP : va_P G.1 vwCl (fl [wMo G dh0 dh1 dh2 dh3 dh4 dh5 dh6 dh7 u_7]) H := hP
    have hD : va_D A (fl [wMo G dh0 dh1 dh2 dh3 dh4 dh5 dh6 dh7 u_7]) := hD
    refine W.eq (g2 := F0 m 14 ls []) rfl ?_
    have hF : f_X10_number d i = (let u_10 : MoV := (f_X10_puts u_7 ((48 : Int32) + (i - i / (10 : Int32) * (10 : Int32)))); u_10) := by subst eu_7; exact hF
    have hok : (ok_X10_puts u_7 ((48 : Int32) + (i - i / (10 : Int32) * (10 : Int32))) ∧ True) := by subst eu_7; exact hok
    refine lv_aload_n hx hb dX10_number_14 rfl (lv_at hl 0 rfl) ?_
    refine lv_bipush (v := (48 : Int32)) hx hb dX10_number_15 (by decide) ?_
    refine lv_iload_n hx hb dX10_number_17 rfl (lv_at hl 1 rfl) ?_
    refine lv_bipush (v := (10 : Int32)) hx hb dX10_number_18 (by decide) ?_
    refine lv_irem hx hb dX10_number_20 (by decide) ?_
    refine lv_iadd hx hb dX10_number_21 ?_
    have k_8 := hok.1
    have hok := hok.2
    refine w_V (own := RX10) (cs := [wMo G dh0 dh1 dh2 dh3 dh4 dh5 dh6 dh7 u_7]) (rs := []) (As := [.int ((48 : Int32) + (i - i / (10 : Int32) * (10 : Int32)))]) (rest := []) (c_X10_puts l G dh0 dh1 dh2 dh3 dh4 dh5 dh6 dh7 H.size u_7 ((48 : Int32) + (i - i / (10 : Int32) * (10 : Int32))) k_8) ⟨hx, hb, hml, hown, hts⟩ g_X10_173 hdv_X10_puts hK hST hS hP hD hA [0] [] rfl rfl rfl (k0 := 0) rfl rfl rfl ⟨Nat.le_of_ble_eq_true rfl, Nat.le_of_ble_eq_true rfl⟩ ⟨Nat.le_of_ble_eq_true rfl, Nat.le_of_ble_eq_true rfl⟩ rfl hl.1 rfl (Nat.le_of_ble_eq_true rfl) dX10_number_22 (fun u_10 H locs huu hP hD hS => ?_)
    have eu_10 := huu
    have hP : va_P G.1 vwCl (fl [wMo G dh0 dh1 dh2 dh3 dh4 dh5 dh6 dh7 u_10]) H := hP
    have hD : va_D A (fl [wMo G dh0 dh1 dh2 dh3 dh4 dh5 dh6 dh7 u_10]) := hD
    refine W.eq (g2 := F0 m 25 ls []) rfl ?_
    have hF : f_X10_number d i = u_10 := by subst eu_10; exact hF
    exact w_retV (u := u_10) hx hb hr hlk hS rfl hF.symm hP hD (Nat.le_of_ble_eq_true rfl) (Nat.le_of_ble_eq_true rfl) dX10_number_25
theorem dX10_writeNotice_0 : decode cX10_writeNotice 0 = .ok (.aload_n 0, 1) := by decide +kernel
theorem dX10_writeNotice_1 : decode cX10_writeNotice 1 = .ok (.aload_n 0, 1) := by decide +kernel
theorem dX10_writeNotice_2 : decode cX10_writeNotice 2 = .ok (.iload_n 1, 1) := by decide +kernel
theorem dX10_writeNotice_3 : decode cX10_writeNotice 3 = .ok (.invokevirtual 75, 3) := by decide +kernel
theorem dX10_writeNotice_6 : decode cX10_writeNotice 6 = .ok (.ifCond .ne 7, 3) := by decide +kernel
theorem dX10_writeNotice_13 : decode cX10_writeNotice 13 = .ok (.iconst 0, 1) := by decide +kernel
theorem dX10_writeNotice_14 : decode cX10_writeNotice 14 = .ok (.iconst 1, 1) := by decide +kernel
theorem dX10_writeNotice_15 : decode cX10_writeNotice 15 = .ok (.invokevirtual 63, 3) := by decide +kernel
theorem dX10_writeNotice_18 : decode cX10_writeNotice 18 = .ok (.ifCond .eq 5, 3) := by decide +kernel
theorem dX10_writeNotice_23 : decode cX10_writeNotice 23 = .ok (.aload_n 0, 1) := by decide +kernel
theorem dX10_writeNotice_24 : decode cX10_writeNotice 24 = .ok (.iconst 0, 1) := by decide +kernel
theorem dX10_writeNotice_25 : decode cX10_writeNotice 25 = .ok (.putfield 166, 3) := by decide +kernel
theorem dX10_writeNotice_28 : decode cX10_writeNotice 28 = .ok (.aload_n 0, 1) := by decide +kernel
theorem dX10_writeNotice_29 : decode cX10_writeNotice 29 = .ok (.bipush 100, 2) := by decide +kernel
theorem dX10_writeNotice_31 : decode cX10_writeNotice 31 = .ok (.invokevirtual 173, 3) := by decide +kernel
theorem dX10_writeNotice_34 : decode cX10_writeNotice 34 = .ok (.aload_n 0, 1) := by decide +kernel
theorem dX10_writeNotice_35 : decode cX10_writeNotice 35 = .ok (.iload_n 1, 1) := by decide +kernel
theorem dX10_writeNotice_36 : decode cX10_writeNotice 36 = .ok (.invokevirtual 169, 3) := by decide +kernel
theorem dX10_writeNotice_39 : decode cX10_writeNotice 39 = .ok (.aload_n 0, 1) := by decide +kernel
theorem dX10_writeNotice_40 : decode cX10_writeNotice 40 = .ok (.bipush 32, 2) := by decide +kernel
theorem dX10_writeNotice_42 : decode cX10_writeNotice 42 = .ok (.invokevirtual 173, 3) := by decide +kernel
theorem dX10_writeNotice_45 : decode cX10_writeNotice 45 = .ok (.iconst 0, 1) := by decide +kernel
theorem dX10_writeNotice_46 : decode cX10_writeNotice 46 = .ok (.istore_n 2, 1) := by decide +kernel
theorem dX10_writeNotice_47 : decode cX10_writeNotice 47 = .ok (.iload_n 2, 1) := by decide +kernel
theorem dX10_writeNotice_48 : decode cX10_writeNotice 48 = .ok (.bipush 8, 2) := by decide +kernel
theorem dX10_writeNotice_50 : decode cX10_writeNotice 50 = .ok (.if_icmp .ge 28, 3) := by decide +kernel
theorem dX10_writeNotice_78 : decode cX10_writeNotice 78 = .ok (.aload_n 0, 1) := by decide +kernel
theorem dX10_writeNotice_79 : decode cX10_writeNotice 79 = .ok (.iload_n 1, 1) := by decide +kernel
theorem dX10_writeNotice_80 : decode cX10_writeNotice 80 = .ok (.iconst 0, 1) := by decide +kernel
theorem dX10_writeNotice_81 : decode cX10_writeNotice 81 = .ok (.invokevirtual 78, 3) := by decide +kernel
theorem dX10_writeNotice_84 : decode cX10_writeNotice 84 = .ok (.ifCond .ne 9, 3) := by decide +kernel
theorem dX10_writeNotice_93 : decode cX10_writeNotice 93 = .ok (.aload_n 0, 1) := by decide +kernel
theorem dX10_writeNotice_94 : decode cX10_writeNotice 94 = .ok (.bipush 32, 2) := by decide +kernel
theorem dX10_writeNotice_96 : decode cX10_writeNotice 96 = .ok (.invokevirtual 173, 3) := by decide +kernel
theorem dX10_writeNotice_99 : decode cX10_writeNotice 99 = .ok (.aload_n 0, 1) := by decide +kernel
theorem dX10_writeNotice_100 : decode cX10_writeNotice 100 = .ok (.aload_n 0, 1) := by decide +kernel
theorem dX10_writeNotice_101 : decode cX10_writeNotice 101 = .ok (.iload_n 1, 1) := by decide +kernel
theorem dX10_writeNotice_102 : decode cX10_writeNotice 102 = .ok (.iconst 1, 1) := by decide +kernel
theorem dX10_writeNotice_103 : decode cX10_writeNotice 103 = .ok (.invokevirtual 78, 3) := by decide +kernel
theorem dX10_writeNotice_106 : decode cX10_writeNotice 106 = .ok (.invokevirtual 169, 3) := by decide +kernel
theorem dX10_writeNotice_109 : decode cX10_writeNotice 109 = .ok (.aload_n 0, 1) := by decide +kernel
theorem dX10_writeNotice_110 : decode cX10_writeNotice 110 = .ok (.bipush 45, 2) := by decide +kernel
theorem dX10_writeNotice_112 : decode cX10_writeNotice 112 = .ok (.invokevirtual 173, 3) := by decide +kernel
theorem dX10_writeNotice_115 : decode cX10_writeNotice 115 = .ok (.aload_n 0, 1) := by decide +kernel
theorem dX10_writeNotice_116 : decode cX10_writeNotice 116 = .ok (.aload_n 0, 1) := by decide +kernel
theorem dX10_writeNotice_117 : decode cX10_writeNotice 117 = .ok (.iload_n 1, 1) := by decide +kernel
theorem dX10_writeNotice_118 : decode cX10_writeNotice 118 = .ok (.iconst 2, 1) := by decide +kernel
theorem dX10_writeNotice_119 : decode cX10_writeNotice 119 = .ok (.invokevirtual 78, 3) := by decide +kernel
theorem dX10_writeNotice_122 : decode cX10_writeNotice 122 = .ok (.invokevirtual 169, 3) := by decide +kernel
theorem dX10_writeNotice_125 : decode cX10_writeNotice 125 = .ok (.aload_n 0, 1) := by decide +kernel
theorem dX10_writeNotice_126 : decode cX10_writeNotice 126 = .ok (.bipush 32, 2) := by decide +kernel
theorem dX10_writeNotice_128 : decode cX10_writeNotice 128 = .ok (.invokevirtual 173, 3) := by decide +kernel
theorem dX10_writeNotice_131 : decode cX10_writeNotice 131 = .ok (.aload_n 0, 1) := by decide +kernel
theorem dX10_writeNotice_132 : decode cX10_writeNotice 132 = .ok (.bipush 107, 2) := by decide +kernel
theorem dX10_writeNotice_134 : decode cX10_writeNotice 134 = .ok (.invokevirtual 173, 3) := by decide +kernel
theorem dX10_writeNotice_137 : decode cX10_writeNotice 137 = .ok (.aload_n 0, 1) := by decide +kernel
theorem dX10_writeNotice_138 : decode cX10_writeNotice 138 = .ok (.aload_n 0, 1) := by decide +kernel
theorem dX10_writeNotice_139 : decode cX10_writeNotice 139 = .ok (.iload_n 1, 1) := by decide +kernel
theorem dX10_writeNotice_140 : decode cX10_writeNotice 140 = .ok (.iconst 3, 1) := by decide +kernel
theorem dX10_writeNotice_141 : decode cX10_writeNotice 141 = .ok (.invokevirtual 78, 3) := by decide +kernel
theorem dX10_writeNotice_144 : decode cX10_writeNotice 144 = .ok (.invokevirtual 169, 3) := by decide +kernel
theorem dX10_writeNotice_147 : decode cX10_writeNotice 147 = .ok (.aload_n 0, 1) := by decide +kernel
theorem dX10_writeNotice_148 : decode cX10_writeNotice 148 = .ok (.iload_n 1, 1) := by decide +kernel
theorem dX10_writeNotice_149 : decode cX10_writeNotice 149 = .ok (.aload_n 0, 1) := by decide +kernel
theorem dX10_writeNotice_150 : decode cX10_writeNotice 150 = .ok (.getfield 9, 3) := by decide +kernel
theorem dX10_writeNotice_153 : decode cX10_writeNotice 153 = .ok (.iconst 0, 1) := by decide +kernel
theorem dX10_writeNotice_154 : decode cX10_writeNotice 154 = .ok (.iaload, 1) := by decide +kernel
theorem dX10_writeNotice_155 : decode cX10_writeNotice 155 = .ok (.invokevirtual 151, 3) := by decide +kernel
theorem dX10_writeNotice_158 : decode cX10_writeNotice 158 = .ok (.ifCond .eq 9, 3) := by decide +kernel
theorem dX10_writeNotice_167 : decode cX10_writeNotice 167 = .ok (.aload_n 0, 1) := by decide +kernel
theorem dX10_writeNotice_168 : decode cX10_writeNotice 168 = .ok (.getfield 166, 3) := by decide +kernel
theorem dX10_writeNotice_171 : decode cX10_writeNotice 171 = .ok (.ireturn, 1) := by decide +kernel
theorem dX10_writeNotice_161 : decode cX10_writeNotice 161 = .ok (.aload_n 0, 1) := by decide +kernel
theorem dX10_writeNotice_162 : decode cX10_writeNotice 162 = .ok (.bipush 33, 2) := by decide +kernel
theorem dX10_writeNotice_164 : decode cX10_writeNotice 164 = .ok (.invokevirtual 173, 3) := by decide +kernel
theorem dX10_writeNotice_87 : decode cX10_writeNotice 87 = .ok (.aload_n 0, 1) := by decide +kernel
theorem dX10_writeNotice_88 : decode cX10_writeNotice 88 = .ok (.bipush 45, 2) := by decide +kernel
theorem dX10_writeNotice_90 : decode cX10_writeNotice 90 = .ok (.invokevirtual 173, 3) := by decide +kernel
theorem dX10_writeNotice_53 : decode cX10_writeNotice 53 = .ok (.aload_n 0, 1) := by decide +kernel
theorem dX10_writeNotice_54 : decode cX10_writeNotice 54 = .ok (.iload_n 1, 1) := by decide +kernel
theorem dX10_writeNotice_55 : decode cX10_writeNotice 55 = .ok (.iconst 0, 1) := by decide +kernel
theorem dX10_writeNotice_56 : decode cX10_writeNotice 56 = .ok (.invokevirtual 78, 3) := by decide +kernel
theorem dX10_writeNotice_59 : decode cX10_writeNotice 59 = .ok (.iload_n 2, 1) := by decide +kernel
theorem dX10_writeNotice_60 : decode cX10_writeNotice 60 = .ok (.ishr, 1) := by decide +kernel
theorem dX10_writeNotice_61 : decode cX10_writeNotice 61 = .ok (.iconst 1, 1) := by decide +kernel
theorem dX10_writeNotice_62 : decode cX10_writeNotice 62 = .ok (.iand, 1) := by decide +kernel
theorem dX10_writeNotice_63 : decode cX10_writeNotice 63 = .ok (.iconst 1, 1) := by decide +kernel
theorem dX10_writeNotice_64 : decode cX10_writeNotice 64 = .ok (.if_icmp .ne 8, 3) := by decide +kernel
theorem dX10_writeNotice_72 : decode cX10_writeNotice 72 = .ok (.iinc 2 1, 3) := by decide +kernel
theorem dX10_writeNotice_75 : decode cX10_writeNotice 75 = .ok (.goto (-28), 3) := by decide +kernel
theorem dX10_writeNotice_67 : decode cX10_writeNotice 67 = .ok (.aload_n 0, 1) := by decide +kernel
theorem dX10_writeNotice_68 : decode cX10_writeNotice 68 = .ok (.iload_n 2, 1) := by decide +kernel
theorem dX10_writeNotice_69 : decode cX10_writeNotice 69 = .ok (.invokevirtual 169, 3) := by decide +kernel
theorem dX10_writeNotice_9 : decode cX10_writeNotice 9 = .ok (.iconst 1, 1) := by decide +kernel
theorem dX10_writeNotice_10 : decode cX10_writeNotice 10 = .ok (.goto 4, 3) := by decide +kernel
theorem dX10_writeNotice_21 : decode cX10_writeNotice 21 = .ok (.iconst 0, 1) := by decide +kernel
theorem dX10_writeNotice_22 : decode cX10_writeNotice 22 = .ok (.ireturn, 1) := by decide +kernel
def lp_X10_writeNotice_47 (d : MoV) (dr : Int32) (u_4 : MoV) (u_8 : MoV) (u_11 : MoV) (u_14 : MoV) : Nat → Int32 → MoV → Int32 × MoV
  | 0, _, _ => (0, d)
  | n + 1, x2, dL => (if (8 : Int32) ≤ x2 then (if (f_X10_of dL dr (0 : Int32)) = (0 : Int32) then (let u_54 : MoV := (f_X10_puts dL (45 : Int32)); (let u_57 : MoV := (f_X10_puts u_54 (32 : Int32)); (let u_62 : MoV := (f_X10_number u_57 (f_X10_of u_57 dr (1 : Int32))); (let u_65 : MoV := (f_X10_puts u_62 (45 : Int32)); (let u_70 : MoV := (f_X10_number u_65 (f_X10_of u_65 dr (2 : Int32))); (let u_73 : MoV := (f_X10_puts u_70 (32 : Int32)); (let u_76 : MoV := (f_X10_puts u_73 (107 : Int32)); (let u_81 : MoV := (f_X10_number u_76 (f_X10_of u_76 dr (3 : Int32))); (if (f_X10_unlocked u_81 dr (u_81.1 (0 : Int32).toNatClampNeg)) = (0 : Int32) then (u_81.2.2.2.2.2.2.2.2.2.2.2.1, u_81) else (let u_87 : MoV := (f_X10_puts u_81 (33 : Int32)); (u_87.2.2.2.2.2.2.2.2.2.2.2.1, u_87))))))))))) else (let u_21 : MoV := (f_X10_puts dL (32 : Int32)); (let u_26 : MoV := (f_X10_number u_21 (f_X10_of u_21 dr (1 : Int32))); (let u_29 : MoV := (f_X10_puts u_26 (45 : Int32)); (let u_34 : MoV := (f_X10_number u_29 (f_X10_of u_29 dr (2 : Int32))); (let u_37 : MoV := (f_X10_puts u_34 (32 : Int32)); (let u_40 : MoV := (f_X10_puts u_37 (107 : Int32)); (let u_45 : MoV := (f_X10_number u_40 (f_X10_of u_40 dr (3 : Int32))); (if (f_X10_unlocked u_45 dr (u_45.1 (0 : Int32).toNatClampNeg)) = (0 : Int32) then (u_45.2.2.2.2.2.2.2.2.2.2.2.1, u_45) else (let u_51 : MoV := (f_X10_puts u_45 (33 : Int32)); (u_51.2.2.2.2.2.2.2.2.2.2.2.1, u_51))))))))))) else (if (((f_X10_of dL dr (0 : Int32)) >>> (x2 &&& 31)) &&& (1 : Int32)) = (1 : Int32) then (let u_93 : MoV := (f_X10_number dL x2); (lp_X10_writeNotice_47 d dr u_4 u_8 u_11 u_14 n (x2 + 1) u_93)) else (lp_X10_writeNotice_47 d dr u_4 u_8 u_11 u_14 n (x2 + 1) dL)))
def okl_lp_X10_writeNotice_47 (d : MoV) (dr : Int32) (u_4 : MoV) (u_8 : MoV) (u_11 : MoV) (u_14 : MoV) : Nat → Int32 → MoV → Prop
  | 0, _, _ => False
  | n + 1, x2, dL => (if (8 : Int32) ≤ x2 then (ok_X10_of dL dr (0 : Int32) ∧ (if (f_X10_of dL dr (0 : Int32)) = (0 : Int32) then (ok_X10_puts dL (45 : Int32) ∧ (let u_54 : MoV := (f_X10_puts dL (45 : Int32)); (ok_X10_puts u_54 (32 : Int32) ∧ (let u_57 : MoV := (f_X10_puts u_54 (32 : Int32)); (ok_X10_of u_57 dr (1 : Int32) ∧ (ok_X10_number u_57 (f_X10_of u_57 dr (1 : Int32)) ∧ (let u_62 : MoV := (f_X10_number u_57 (f_X10_of u_57 dr (1 : Int32))); (ok_X10_puts u_62 (45 : Int32) ∧ (let u_65 : MoV := (f_X10_puts u_62 (45 : Int32)); (ok_X10_of u_65 dr (2 : Int32) ∧ (ok_X10_number u_65 (f_X10_of u_65 dr (2 : Int32)) ∧ (let u_70 : MoV := (f_X10_number u_65 (f_X10_of u_65 dr (2 : Int32))); (ok_X10_puts u_70 (32 : Int32) ∧ (let u_73 : MoV := (f_X10_puts u_70 (32 : Int32)); (ok_X10_puts u_73 (107 : Int32) ∧ (let u_76 : MoV := (f_X10_puts u_73 (107 : Int32)); (ok_X10_of u_76 dr (3 : Int32) ∧ (ok_X10_number u_76 (f_X10_of u_76 dr (3 : Int32)) ∧ (let u_81 : MoV := (f_X10_number u_76 (f_X10_of u_76 dr (3 : Int32))); (ok_X10_unlocked u_81 dr (u_81.1 (0 : Int32).toNatClampNeg) ∧ (if (f_X10_unlocked u_81 dr (u_81.1 (0 : Int32).toNatClampNeg)) = (0 : Int32) then True else (ok_X10_puts u_81 (33 : Int32) ∧ True)))))))))))))))))))))) else (ok_X10_puts dL (32 : Int32) ∧ (let u_21 : MoV := (f_X10_puts dL (32 : Int32)); (ok_X10_of u_21 dr (1 : Int32) ∧ (ok_X10_number u_21 (f_X10_of u_21 dr (1 : Int32)) ∧ (let u_26 : MoV := (f_X10_number u_21 (f_X10_of u_21 dr (1 : Int32))); (ok_X10_puts u_26 (45 : Int32) ∧ (let u_29 : MoV := (f_X10_puts u_26 (45 : Int32)); (ok_X10_of u_29 dr (2 : Int32) ∧ (ok_X10_number u_29 (f_X10_of u_29 dr (2 : Int32)) ∧ (let u_34 : MoV := (f_X10_number u_29 (f_X10_of u_29 dr (2 : Int32))); (ok_X10_puts u_34 (32 : Int32) ∧ (let u_37 : MoV := (f_X10_puts u_34 (32 : Int32)); (ok_X10_puts u_37 (107 : Int32) ∧ (let u_40 : MoV := (f_X10_puts u_37 (107 : Int32)); (ok_X10_of u_40 dr (3 : Int32) ∧ (ok_X10_number u_40 (f_X10_of u_40 dr (3 : Int32)) ∧ (let u_45 : MoV := (f_X10_number u_40 (f_X10_of u_40 dr (3 : Int32))); (ok_X10_unlocked u_45 dr (u_45.1 (0 : Int32).toNatClampNeg) ∧ (if (f_X10_unlocked u_45 dr (u_45.1 (0 : Int32).toNatClampNeg)) = (0 : Int32) then True else (ok_X10_puts u_45 (33 : Int32) ∧ True)))))))))))))))))))))) else (ok_X10_of dL dr (0 : Int32) ∧ (if (((f_X10_of dL dr (0 : Int32)) >>> (x2 &&& 31)) &&& (1 : Int32)) = (1 : Int32) then (ok_X10_number dL x2 ∧ (let u_93 : MoV := (f_X10_number dL x2); (okl_lp_X10_writeNotice_47 d dr u_4 u_8 u_11 u_14 n (x2 + 1) u_93))) else (okl_lp_X10_writeNotice_47 d dr u_4 u_8 u_11 u_14 n (x2 + 1) dL))))
def f_X10_writeNotice (d : MoV) (dr : Int32) : Int32 × MoV := (if (f_X10_isDoor d dr) = (0 : Int32) then (let u_95 : MoV := (f_X10_isThrown d (1 : Int32) (1 : Int32)); ((0 : Int32), u_95)) else (let u_4 : MoV := (f_X10_isThrown d (0 : Int32) (1 : Int32)); (let u_8 : MoV := (f_X10_puts (mo11 u_4 (0 : Int32)) (100 : Int32)); (let u_11 : MoV := (f_X10_number u_8 dr); (let u_14 : MoV := (f_X10_puts u_11 (32 : Int32)); (lp_X10_writeNotice_47 d dr u_4 u_8 u_11 u_14 9 (0 : Int32) u_14))))))
def ok_X10_writeNotice (d : MoV) (dr : Int32) : Prop := (if (f_X10_isDoor d dr) = (0 : Int32) then True else (let u_4 : MoV := (f_X10_isThrown d (0 : Int32) (1 : Int32)); (ok_X10_puts (mo11 u_4 (0 : Int32)) (100 : Int32) ∧ (let u_8 : MoV := (f_X10_puts (mo11 u_4 (0 : Int32)) (100 : Int32)); (ok_X10_number u_8 dr ∧ (let u_11 : MoV := (f_X10_number u_8 dr); (ok_X10_puts u_11 (32 : Int32) ∧ (let u_14 : MoV := (f_X10_puts u_11 (32 : Int32)); (okl_lp_X10_writeNotice_47 d dr u_4 u_8 u_11 u_14 9 (0 : Int32) u_14)))))))))
set_option maxHeartbeats 4000000 in
set_option maxRecDepth 100000 in
theorem c_X10_writeNotice (l : Launch) (G : GG) (dh0 : Nat) (dh1 : Nat) (dh2 : Nat) (dh3 : Nat) (dh4 : Nat) (dh5 : Nat) (dh6 : Nat) (dh7 : Nat) (sz : Nat) (d : MoV) (dr : Int32) (hok : ok_X10_writeNotice d dr) : wMet l yX10_writeNotice cX10_writeNotice 3 (some .int) 4 0 0 G (fl [wMo G dh0 dh1 dh2 dh3 dh4 dh5 dh6 dh7 d]) [.ref dh0, .int dr] sz (fun u : Int32 × MoV => some (.int u.1)) (fun u : Int32 × MoV => u = f_X10_writeNotice d dr) (fun u : Int32 × MoV => fl [wMo G dh0 dh1 dh2 dh3 dh4 dh5 dh6 dh7 u.2]) := by
  refine w_start (by decide +kernel) (Nat.le_of_ble_eq_true rfl) ?_
  intro p e s m below meth c A hx hb hr hml hts hown hlk hin hP hD hA hK hST ls hl
  have hS : va_S A s.heap s.heap [] := va_S.rf
  have hown : s.vm.findClass RX10 = some m.cls := hown
  have hl : lv_has ls 3 [(0, .ref dh0), (1, .int dr)] := hl
  have hF : f_X10_writeNotice d dr = (if (f_X10_isDoor d dr) = (0 : Int32) then (let u_95 : MoV := (f_X10_isThrown d (1 : Int32) (1 : Int32)); ((0 : Int32), u_95)) else (let u_4 : MoV := (f_X10_isThrown d (0 : Int32) (1 : Int32)); (let u_8 : MoV := (f_X10_puts (mo11 u_4 (0 : Int32)) (100 : Int32)); (let u_11 : MoV := (f_X10_number u_8 dr); (let u_14 : MoV := (f_X10_puts u_11 (32 : Int32)); (lp_X10_writeNotice_47 d dr u_4 u_8 u_11 u_14 9 (0 : Int32) u_14)))))) := rfl
  have hok : (if (f_X10_isDoor d dr) = (0 : Int32) then True else (let u_4 : MoV := (f_X10_isThrown d (0 : Int32) (1 : Int32)); (ok_X10_puts (mo11 u_4 (0 : Int32)) (100 : Int32) ∧ (let u_8 : MoV := (f_X10_puts (mo11 u_4 (0 : Int32)) (100 : Int32)); (ok_X10_number u_8 dr ∧ (let u_11 : MoV := (f_X10_number u_8 dr); (ok_X10_puts u_11 (32 : Int32) ∧ (let u_14 : MoV := (f_X10_puts u_11 (32 : Int32)); (okl_lp_X10_writeNotice_47 d dr u_4 u_8 u_11 u_14 9 (0 : Int32) u_14))))))))) := hok
  refine lv_aload_n hx hb dX10_writeNotice_0 rfl (lv_at hl 0 rfl) ?_
  refine lv_aload_n hx hb dX10_writeNotice_1 rfl (lv_at hl 0 rfl) ?_
  refine lv_iload_n hx hb dX10_writeNotice_2 rfl (lv_at hl 1 rfl) ?_
  refine r_V (own := RX10) (v := (some (.int (f_X10_isDoor d dr)))) (st1 := [.int (f_X10_isDoor d dr), .ref dh0]) (As := [.int dr]) (rest := [.ref dh0]) (c_X10_isDoor l G dh0 dh1 dh2 dh3 dh4 dh5 dh6 dh7 d dr) ⟨hx, hb, hml, hown, hts⟩ g_X10_75 hdv_X10_isDoor hK hST hS hP [0, 1, 2, 3, 4, 5, 6, 7] rfl (k0 := 0) rfl rfl rfl ⟨Nat.le_of_ble_eq_true rfl, Nat.le_of_ble_eq_true rfl⟩ ⟨Nat.le_of_ble_eq_true rfl, Nat.le_of_ble_eq_true rfl⟩ rfl hl.1 rfl (Nat.le_of_ble_eq_true rfl) dX10_writeNotice_3 rfl (fun b_1 => ?_)
  refine lv_if_ne (tgt := 13) hx hb dX10_writeNotice_6 (by decide) (fun c_2 => ?_) (fun c_2 => ?_)
  · have hF := hF.trans (if_neg c_2)
    have hok := Eq.mp (if_neg c_2) hok
    refine lv_iconst (v := (0 : Int32)) hx hb dX10_writeNotice_13 (by decide) ?_
    refine lv_iconst (v := (1 : Int32)) hx hb dX10_writeNotice_14 (by decide) ?_
    refine w_V (own := RX10) (cs := [wMo G dh0 dh1 dh2 dh3 dh4 dh5 dh6 dh7 d]) (rs := []) (As := [.int (0 : Int32), .int (1 : Int32)]) (rest := []) (c_X10_isThrown l G dh0 dh1 dh2 dh3 dh4 dh5 dh6 dh7 s.heap.size d (0 : Int32) (1 : Int32) (rfl)) ⟨hx, hb, hml, hown, hts⟩ g_X10_63 hdv_X10_isThrown hK hST hS hP hD hA [0] [] rfl rfl rfl (k0 := 0) rfl rfl rfl ⟨Nat.le_of_ble_eq_true rfl, Nat.le_of_ble_eq_true rfl⟩ ⟨Nat.le_of_ble_eq_true rfl, Nat.le_of_ble_eq_true rfl⟩ rfl hl.1 rfl (Nat.le_of_ble_eq_true rfl) dX10_writeNotice_15 (fun u_4 H locs huu hP hD hS => ?_)
    have eu_4 := huu
    have hP : va_P G.1 vwCl (fl [wMo G dh0 dh1 dh2 dh3 dh4 dh5 dh6 dh7 u_4]) H := hP
    have hD : va_D A (fl [wMo G dh0 dh1 dh2 dh3 dh4 dh5 dh6 dh7 u_4]) := hD
    refine W.eq (g2 := F0 m 18 ls [.int (0 : Int32)]) rfl ?_
    have hF : f_X10_writeNotice d dr = (let u_8 : MoV := (f_X10_puts (mo11 u_4 (0 : Int32)) (100 : Int32)); (let u_11 : MoV := (f_X10_number u_8 dr); (let u_14 : MoV := (f_X10_puts u_11 (32 : Int32)); (lp_X10_writeNotice_47 d dr u_4 u_8 u_11 u_14 9 (0 : Int32) u_14)))) := by subst eu_4; exact hF
    have hok : (ok_X10_puts (mo11 u_4 (0 : Int32)) (100 : Int32) ∧ (let u_8 : MoV := (f_X10_puts (mo11 u_4 (0 : Int32)) (100 : Int32)); (ok_X10_number u_8 dr ∧ (let u_11 : MoV := (f_X10_number u_8 dr); (ok_X10_puts u_11 (32 : Int32) ∧ (let u_14 : MoV := (f_X10_puts u_11 (32 : Int32)); (okl_lp_X10_writeNotice_47 d dr u_4 u_8 u_11 u_14 9 (0 : Int32) u_14))))))) := by subst eu_4; exact hok
    refine lv_if_eq (tgt := 23) hx hb dX10_writeNotice_18 (by decide) (fun c_5 => ?_) (fun c_5 => ?_)
    · refine lv_aload_n hx hb dX10_writeNotice_23 rfl (lv_at hl 0 rfl) ?_
      refine lv_iconst (v := (0 : Int32)) hx hb dX10_writeNotice_24 (by decide) ?_
      refine va_put (D := G.1) (ci := 12) (v := .int (0 : Int32)) (ty := .int) (C := RX10) (T := TX10) (N := 17) hx hb hts uws_X10 tyX10 tyX10_ok nmX10 hown hK hP hD hS 0 rfl rfl 11 (by decide) (hts _ u_1691) (fun _ h9 => h9) rfl (by decide +kernel) rfl rfl (Nat.le_of_ble_eq_true rfl) dX10_writeNotice_25 (fun H locs hP hD hS => ?_)
      have hP : va_P G.1 vwCl (fl [wMo G dh0 dh1 dh2 dh3 dh4 dh5 dh6 dh7 (mo11 u_4 (0 : Int32))]) H := hP
      have hD : va_D A (fl [wMo G dh0 dh1 dh2 dh3 dh4 dh5 dh6 dh7 (mo11 u_4 (0 : Int32))]) := hD
      refine lv_aload_n hx hb dX10_writeNotice_28 rfl (lv_at hl 0 rfl) ?_
      refine lv_bipush (v := (100 : Int32)) hx hb dX10_writeNotice_29 (by decide) ?_
      have k_6 := hok.1
      have hok := hok.2
      refine w_V (own := RX10) (cs := [wMo G dh0 dh1 dh2 dh3 dh4 dh5 dh6 dh7 (mo11 u_4 (0 : Int32))]) (rs := []) (As := [.int (100 : Int32)]) (rest := []) (c_X10_puts l G dh0 dh1 dh2 dh3 dh4 dh5 dh6 dh7 H.size (mo11 u_4 (0 : Int32)) (100 : Int32) k_6) ⟨hx, hb, hml, hown, hts⟩ g_X10_173 hdv_X10_puts hK hST hS hP hD hA [0] [] rfl rfl rfl (k0 := 0) rfl rfl rfl ⟨Nat.le_of_ble_eq_true rfl, Nat.le_of_ble_eq_true rfl⟩ ⟨Nat.le_of_ble_eq_true rfl, Nat.le_of_ble_eq_true rfl⟩ rfl hl.1 rfl (Nat.le_of_ble_eq_true rfl) dX10_writeNotice_31 (fun u_8 H locs huu hP hD hS => ?_)
      have eu_8 := huu
      have hP : va_P G.1 vwCl (fl [wMo G dh0 dh1 dh2 dh3 dh4 dh5 dh6 dh7 u_8]) H := hP
      have hD : va_D A (fl [wMo G dh0 dh1 dh2 dh3 dh4 dh5 dh6 dh7 u_8]) := hD
      refine W.eq (g2 := F0 m 34 ls []) rfl ?_
      have hF : f_X10_writeNotice d dr = (let u_11 : MoV := (f_X10_number u_8 dr); (let u_14 : MoV := (f_X10_puts u_11 (32 : Int32)); (lp_X10_writeNotice_47 d dr u_4 u_8 u_11 u_14 9 (0 : Int32) u_14))) := by subst eu_8; exact hF
      have hok : (ok_X10_number u_8 dr ∧ (let u_11 : MoV := (f_X10_number u_8 dr); (ok_X10_puts u_11 (32 : Int32) ∧ (let u_14 : MoV := (f_X10_puts u_11 (32 : Int32)); (okl_lp_X10_writeNotice_47 d dr u_4 u_8 u_11 u_14 9 (0 : Int32) u_14))))) := by subst eu_8; exact hok
      refine lv_aload_n hx hb dX10_writeNotice_34 rfl (lv_at hl 0 rfl) ?_
      refine lv_iload_n hx hb dX10_writeNotice_35 rfl (lv_at hl 1 rfl) ?_
      have k_9 := hok.1
      have hok := hok.2
      refine w_V (own := RX10) (cs := [wMo G dh0 dh1 dh2 dh3 dh4 dh5 dh6 dh7 u_8]) (rs := []) (As := [.int dr]) (rest := []) (c_X10_number l G dh0 dh1 dh2 dh3 dh4 dh5 dh6 dh7 H.size u_8 dr k_9) ⟨hx, hb, hml, hown, hts⟩ g_X10_169 hdv_X10_number hK hST hS hP hD hA [0] [] rfl rfl rfl (k0 := 0) rfl rfl rfl ⟨Nat.le_of_ble_eq_true rfl, Nat.le_of_ble_eq_true rfl⟩ ⟨Nat.le_of_ble_eq_true rfl, Nat.le_of_ble_eq_true rfl⟩ rfl hl.1 rfl (Nat.le_of_ble_eq_true rfl) dX10_writeNotice_36 (fun u_11 H locs huu hP hD hS => ?_)
      have eu_11 := huu
      have hP : va_P G.1 vwCl (fl [wMo G dh0 dh1 dh2 dh3 dh4 dh5 dh6 dh7 u_11]) H := hP
      have hD : va_D A (fl [wMo G dh0 dh1 dh2 dh3 dh4 dh5 dh6 dh7 u_11]) := hD
      refine W.eq (g2 := F0 m 39 ls []) rfl ?_
      have hF : f_X10_writeNotice d dr = (let u_14 : MoV := (f_X10_puts u_11 (32 : Int32)); (lp_X10_writeNotice_47 d dr u_4 u_8 u_11 u_14 9 (0 : Int32) u_14)) := by subst eu_11; exact hF
      have hok : (ok_X10_puts u_11 (32 : Int32) ∧ (let u_14 : MoV := (f_X10_puts u_11 (32 : Int32)); (okl_lp_X10_writeNotice_47 d dr u_4 u_8 u_11 u_14 9 (0 : Int32) u_14))) := by subst eu_11; exact hok
      refine lv_aload_n hx hb dX10_writeNotice_39 rfl (lv_at hl 0 rfl) ?_
      refine lv_bipush (v := (32 : Int32)) hx hb dX10_writeNotice_40 (by decide) ?_
      have k_12 := hok.1
      have hok := hok.2
      refine w_V (own := RX10) (cs := [wMo G dh0 dh1 dh2 dh3 dh4 dh5 dh6 dh7 u_11]) (rs := []) (As := [.int (32 : Int32)]) (rest := []) (c_X10_puts l G dh0 dh1 dh2 dh3 dh4 dh5 dh6 dh7 H.size u_11 (32 : Int32) k_12) ⟨hx, hb, hml, hown, hts⟩ g_X10_173 hdv_X10_puts hK hST hS hP hD hA [0] [] rfl rfl rfl (k0 := 0) rfl rfl rfl ⟨Nat.le_of_ble_eq_true rfl, Nat.le_of_ble_eq_true rfl⟩ ⟨Nat.le_of_ble_eq_true rfl, Nat.le_of_ble_eq_true rfl⟩ rfl hl.1 rfl (Nat.le_of_ble_eq_true rfl) dX10_writeNotice_42 (fun u_14 H locs huu hP hD hS => ?_)
      have eu_14 := huu
      have hP : va_P G.1 vwCl (fl [wMo G dh0 dh1 dh2 dh3 dh4 dh5 dh6 dh7 u_14]) H := hP
      have hD : va_D A (fl [wMo G dh0 dh1 dh2 dh3 dh4 dh5 dh6 dh7 u_14]) := hD
      refine W.eq (g2 := F0 m 45 ls []) rfl ?_
      have hF : f_X10_writeNotice d dr = (lp_X10_writeNotice_47 d dr u_4 u_8 u_11 u_14 9 (0 : Int32) u_14) := by subst eu_14; exact hF
      have hok : (okl_lp_X10_writeNotice_47 d dr u_4 u_8 u_11 u_14 9 (0 : Int32) u_14) := by subst eu_14; exact hok
      refine lv_iconst (v := (0 : Int32)) hx hb dX10_writeNotice_45 (by decide) ?_
      refine lv_istore_n (lv' := [(2, .int (0 : Int32)), (0, .ref dh0), (1, .int dr)]) hx hb dX10_writeNotice_46 rfl hl (by decide) rfl (fun ls hl => ?_)
      have L47 : ∀ (n : Nat) (x2 : Int32) (dL : MoV) (H : Heap) (locs : List Loc) (ls : Array Slot), lv_has ls 3 [(2, .int x2), (0, .ref dh0), (1, .int dr)] → va_P G.1 vwCl (fl [wMo G dh0 dh1 dh2 dh3 dh4 dh5 dh6 dh7 dL]) H → va_D A (fl [wMo G dh0 dh1 dh2 dh3 dh4 dh5 dh6 dh7 dL]) → va_S A s.heap H locs → (True) → f_X10_writeNotice d dr = lp_X10_writeNotice_47 d dr u_4 u_8 u_11 u_14 n x2 dL → okl_lp_X10_writeNotice_47 d dr u_4 u_8 u_11 u_14 n x2 dL → W p l e (rmd 4 0 0) s m ([.ref dh0, .int dr] : List Value).toArray below meth c H locs 0 0 (MQ below (wQ (fun u : Int32 × MoV => some (.int u.1)) (fun u : Int32 × MoV => u = f_X10_writeNotice d dr) (fun u : Int32 × MoV => fl [wMo G dh0 dh1 dh2 dh3 dh4 dh5 dh6 dh7 u.2]) G.1 A) ([.ref dh0, .int dr] : List Value).toArray s 0 0 A) (F0 m 47 ls []) := by
        intro n
        induction n with
        | zero => intro x2 dL H locs ls hl _ _ _ hu hF hok; exact hok.elim
        | succ n ih =>
          intro x2 dL H locs ls hl hP hD hS hu hF hok
          have hF : f_X10_writeNotice d dr = (if (8 : Int32) ≤ x2 then (if (f_X10_of dL dr (0 : Int32)) = (0 : Int32) then (let u_54 : MoV := (f_X10_puts dL (45 : Int32)); (let u_57 : MoV := (f_X10_puts u_54 (32 : Int32)); (let u_62 : MoV := (f_X10_number u_57 (f_X10_of u_57 dr (1 : Int32))); (let u_65 : MoV := (f_X10_puts u_62 (45 : Int32)); (let u_70 : MoV := (f_X10_number u_65 (f_X10_of u_65 dr (2 : Int32))); (let u_73 : MoV := (f_X10_puts u_70 (32 : Int32)); (let u_76 : MoV := (f_X10_puts u_73 (107 : Int32)); (let u_81 : MoV := (f_X10_number u_76 (f_X10_of u_76 dr (3 : Int32))); (if (f_X10_unlocked u_81 dr (u_81.1 (0 : Int32).toNatClampNeg)) = (0 : Int32) then (u_81.2.2.2.2.2.2.2.2.2.2.2.1, u_81) else (let u_87 : MoV := (f_X10_puts u_81 (33 : Int32)); (u_87.2.2.2.2.2.2.2.2.2.2.2.1, u_87))))))))))) else (let u_21 : MoV := (f_X10_puts dL (32 : Int32)); (let u_26 : MoV := (f_X10_number u_21 (f_X10_of u_21 dr (1 : Int32))); (let u_29 : MoV := (f_X10_puts u_26 (45 : Int32)); (let u_34 : MoV := (f_X10_number u_29 (f_X10_of u_29 dr (2 : Int32))); (let u_37 : MoV := (f_X10_puts u_34 (32 : Int32)); (let u_40 : MoV := (f_X10_puts u_37 (107 : Int32)); (let u_45 : MoV := (f_X10_number u_40 (f_X10_of u_40 dr (3 : Int32))); (if (f_X10_unlocked u_45 dr (u_45.1 (0 : Int32).toNatClampNeg)) = (0 : Int32) then (u_45.2.2.2.2.2.2.2.2.2.2.2.1, u_45) else (let u_51 : MoV := (f_X10_puts u_45 (33 : Int32)); (u_51.2.2.2.2.2.2.2.2.2.2.2.1, u_51))))))))))) else (if (((f_X10_of dL dr (0 : Int32)) >>> (x2 &&& 31)) &&& (1 : Int32)) = (1 : Int32) then (let u_93 : MoV := (f_X10_number dL x2); (lp_X10_writeNotice_47 d dr u_4 u_8 u_11 u_14 n (x2 + 1) u_93)) else (lp_X10_writeNotice_47 d dr u_4 u_8 u_11 u_14 n (x2 + 1) dL))) := hF
          have hok : (if (8 : Int32) ≤ x2 then (ok_X10_of dL dr (0 : Int32) ∧ (if (f_X10_of dL dr (0 : Int32)) = (0 : Int32) then (ok_X10_puts dL (45 : Int32) ∧ (let u_54 : MoV := (f_X10_puts dL (45 : Int32)); (ok_X10_puts u_54 (32 : Int32) ∧ (let u_57 : MoV := (f_X10_puts u_54 (32 : Int32)); (ok_X10_of u_57 dr (1 : Int32) ∧ (ok_X10_number u_57 (f_X10_of u_57 dr (1 : Int32)) ∧ (let u_62 : MoV := (f_X10_number u_57 (f_X10_of u_57 dr (1 : Int32))); (ok_X10_puts u_62 (45 : Int32) ∧ (let u_65 : MoV := (f_X10_puts u_62 (45 : Int32)); (ok_X10_of u_65 dr (2 : Int32) ∧ (ok_X10_number u_65 (f_X10_of u_65 dr (2 : Int32)) ∧ (let u_70 : MoV := (f_X10_number u_65 (f_X10_of u_65 dr (2 : Int32))); (ok_X10_puts u_70 (32 : Int32) ∧ (let u_73 : MoV := (f_X10_puts u_70 (32 : Int32)); (ok_X10_puts u_73 (107 : Int32) ∧ (let u_76 : MoV := (f_X10_puts u_73 (107 : Int32)); (ok_X10_of u_76 dr (3 : Int32) ∧ (ok_X10_number u_76 (f_X10_of u_76 dr (3 : Int32)) ∧ (let u_81 : MoV := (f_X10_number u_76 (f_X10_of u_76 dr (3 : Int32))); (ok_X10_unlocked u_81 dr (u_81.1 (0 : Int32).toNatClampNeg) ∧ (if (f_X10_unlocked u_81 dr (u_81.1 (0 : Int32).toNatClampNeg)) = (0 : Int32) then True else (ok_X10_puts u_81 (33 : Int32) ∧ True)))))))))))))))))))))) else (ok_X10_puts dL (32 : Int32) ∧ (let u_21 : MoV := (f_X10_puts dL (32 : Int32)); (ok_X10_of u_21 dr (1 : Int32) ∧ (ok_X10_number u_21 (f_X10_of u_21 dr (1 : Int32)) ∧ (let u_26 : MoV := (f_X10_number u_21 (f_X10_of u_21 dr (1 : Int32))); (ok_X10_puts u_26 (45 : Int32) ∧ (let u_29 : MoV := (f_X10_puts u_26 (45 : Int32)); (ok_X10_of u_29 dr (2 : Int32) ∧ (ok_X10_number u_29 (f_X10_of u_29 dr (2 : Int32)) ∧ (let u_34 : MoV := (f_X10_number u_29 (f_X10_of u_29 dr (2 : Int32))); (ok_X10_puts u_34 (32 : Int32) ∧ (let u_37 : MoV := (f_X10_puts u_34 (32 : Int32)); (ok_X10_puts u_37 (107 : Int32) ∧ (let u_40 : MoV := (f_X10_puts u_37 (107 : Int32)); (ok_X10_of u_40 dr (3 : Int32) ∧ (ok_X10_number u_40 (f_X10_of u_40 dr (3 : Int32)) ∧ (let u_45 : MoV := (f_X10_number u_40 (f_X10_of u_40 dr (3 : Int32))); (ok_X10_unlocked u_45 dr (u_45.1 (0 : Int32).toNatClampNeg) ∧ (if (f_X10_unlocked u_45 dr (u_45.1 (0 : Int32).toNatClampNeg)) = (0 : Int32) then True else (ok_X10_puts u_45 (33 : Int32) ∧ True)))))))))))))))))))))) else (ok_X10_of dL dr (0 : Int32) ∧ (if (((f_X10_of dL dr (0 : Int32)) >>> (x2 &&& 31)) &&& (1 : Int32)) = (1 : Int32) then (ok_X10_number dL x2 ∧ (let u_93 : MoV := (f_X10_number dL x2); (okl_lp_X10_writeNotice_47 d dr u_4 u_8 u_11 u_14 n (x2 + 1) u_93))) else (okl_lp_X10_writeNotice_47 d dr u_4 u_8 u_11 u_14 n (x2 + 1) dL)))) := hok
          refine lv_iload_n hx hb dX10_writeNotice_47 rfl (lv_at hl 0 rfl) ?_
          refine lv_bipush (v := (8 : Int32)) hx hb dX10_writeNotice_48 (by decide) ?_
          refine lv_icmp_ge (tgt := 78) hx hb dX10_writeNotice_50 (by decide) (fun c_15 => ?_) (fun c_15 => ?_)
          · have hF := hF.trans (if_pos c_15)
            have hok := Eq.mp (if_pos c_15) hok
            refine lv_aload_n hx hb dX10_writeNotice_78 rfl (lv_at hl 1 rfl) ?_
            refine lv_iload_n hx hb dX10_writeNotice_79 rfl (lv_at hl 2 rfl) ?_
            refine lv_iconst (v := (0 : Int32)) hx hb dX10_writeNotice_80 (by decide) ?_
            have k_16 := hok.1
            have hok := hok.2
            refine r_V (own := RX10) (v := (some (.int (f_X10_of dL dr (0 : Int32))))) (st1 := [.int (f_X10_of dL dr (0 : Int32))]) (As := [.int dr, .int (0 : Int32)]) (rest := []) (c_X10_of l G dh0 dh1 dh2 dh3 dh4 dh5 dh6 dh7 dL dr (0 : Int32) k_16) ⟨hx, hb, hml, hown, hts⟩ g_X10_78 hdv_X10_of hK hST hS hP [0, 1, 2, 3, 4, 5, 6, 7] rfl (k0 := 0) rfl rfl rfl ⟨Nat.le_of_ble_eq_true rfl, Nat.le_of_ble_eq_true rfl⟩ ⟨Nat.le_of_ble_eq_true rfl, Nat.le_of_ble_eq_true rfl⟩ rfl hl.1 rfl (Nat.le_of_ble_eq_true rfl) dX10_writeNotice_81 rfl (fun b_17 => ?_)
            refine lv_if_ne (tgt := 93) hx hb dX10_writeNotice_84 (by decide) (fun c_18 => ?_) (fun c_18 => ?_)
            · have hF := hF.trans (if_neg c_18)
              have hok := Eq.mp (if_neg c_18) hok
              refine lv_aload_n hx hb dX10_writeNotice_93 rfl (lv_at hl 1 rfl) ?_
              refine lv_bipush (v := (32 : Int32)) hx hb dX10_writeNotice_94 (by decide) ?_
              have k_19 := hok.1
              have hok := hok.2
              refine w_V (own := RX10) (cs := [wMo G dh0 dh1 dh2 dh3 dh4 dh5 dh6 dh7 dL]) (rs := []) (As := [.int (32 : Int32)]) (rest := []) (c_X10_puts l G dh0 dh1 dh2 dh3 dh4 dh5 dh6 dh7 H.size dL (32 : Int32) k_19) ⟨hx, hb, hml, hown, hts⟩ g_X10_173 hdv_X10_puts hK hST hS hP hD hA [0] [] rfl rfl rfl (k0 := 0) rfl rfl rfl ⟨Nat.le_of_ble_eq_true rfl, Nat.le_of_ble_eq_true rfl⟩ ⟨Nat.le_of_ble_eq_true rfl, Nat.le_of_ble_eq_true rfl⟩ rfl hl.1 rfl (Nat.le_of_ble_eq_true rfl) dX10_writeNotice_96 (fun u_21 H locs huu hP hD hS => ?_)
              have eu_21 := huu
              have hP : va_P G.1 vwCl (fl [wMo G dh0 dh1 dh2 dh3 dh4 dh5 dh6 dh7 u_21]) H := hP
              have hD : va_D A (fl [wMo G dh0 dh1 dh2 dh3 dh4 dh5 dh6 dh7 u_21]) := hD
              refine W.eq (g2 := F0 m 99 ls []) rfl ?_
              have hF : f_X10_writeNotice d dr = (let u_26 : MoV := (f_X10_number u_21 (f_X10_of u_21 dr (1 : Int32))); (let u_29 : MoV := (f_X10_puts u_26 (45 : Int32)); (let u_34 : MoV := (f_X10_number u_29 (f_X10_of u_29 dr (2 : Int32))); (let u_37 : MoV := (f_X10_puts u_34 (32 : Int32)); (let u_40 : MoV := (f_X10_puts u_37 (107 : Int32)); (let u_45 : MoV := (f_X10_number u_40 (f_X10_of u_40 dr (3 : Int32))); (if (f_X10_unlocked u_45 dr (u_45.1 (0 : Int32).toNatClampNeg)) = (0 : Int32) then (u_45.2.2.2.2.2.2.2.2.2.2.2.1, u_45) else (let u_51 : MoV := (f_X10_puts u_45 (33 : Int32)); (u_51.2.2.2.2.2.2.2.2.2.2.2.1, u_51))))))))) := by subst eu_21; exact hF
              have hok : (ok_X10_of u_21 dr (1 : Int32) ∧ (ok_X10_number u_21 (f_X10_of u_21 dr (1 : Int32)) ∧ (let u_26 : MoV := (f_X10_number u_21 (f_X10_of u_21 dr (1 : Int32))); (ok_X10_puts u_26 (45 : Int32) ∧ (let u_29 : MoV := (f_X10_puts u_26 (45 : Int32)); (ok_X10_of u_29 dr (2 : Int32) ∧ (ok_X10_number u_29 (f_X10_of u_29 dr (2 : Int32)) ∧ (let u_34 : MoV := (f_X10_number u_29 (f_X10_of u_29 dr (2 : Int32))); (ok_X10_puts u_34 (32 : Int32) ∧ (let u_37 : MoV := (f_X10_puts u_34 (32 : Int32)); (ok_X10_puts u_37 (107 : Int32) ∧ (let u_40 : MoV := (f_X10_puts u_37 (107 : Int32)); (ok_X10_of u_40 dr (3 : Int32) ∧ (ok_X10_number u_40 (f_X10_of u_40 dr (3 : Int32)) ∧ (let u_45 : MoV := (f_X10_number u_40 (f_X10_of u_40 dr (3 : Int32))); (ok_X10_unlocked u_45 dr (u_45.1 (0 : Int32).toNatClampNeg) ∧ (if (f_X10_unlocked u_45 dr (u_45.1 (0 : Int32).toNatClampNeg)) = (0 : Int32) then True else (ok_X10_puts u_45 (33 : Int32) ∧ True)))))))))))))))))) := by subst eu_21; exact hok
              refine lv_aload_n hx hb dX10_writeNotice_99 rfl (lv_at hl 1 rfl) ?_
              refine lv_aload_n hx hb dX10_writeNotice_100 rfl (lv_at hl 1 rfl) ?_
              refine lv_iload_n hx hb dX10_writeNotice_101 rfl (lv_at hl 2 rfl) ?_
              refine lv_iconst (v := (1 : Int32)) hx hb dX10_writeNotice_102 (by decide) ?_
              have k_22 := hok.1
              have hok := hok.2
              refine r_V (own := RX10) (v := (some (.int (f_X10_of u_21 dr (1 : Int32))))) (st1 := [.int (f_X10_of u_21 dr (1 : Int32)), .ref dh0]) (As := [.int dr, .int (1 : Int32)]) (rest := [.ref dh0]) (c_X10_of l G dh0 dh1 dh2 dh3 dh4 dh5 dh6 dh7 u_21 dr (1 : Int32) k_22) ⟨hx, hb, hml, hown, hts⟩ g_X10_78 hdv_X10_of hK hST hS hP [0, 1, 2, 3, 4, 5, 6, 7] rfl (k0 := 0) rfl rfl rfl ⟨Nat.le_of_ble_eq_true rfl, Nat.le_of_ble_eq_true rfl⟩ ⟨Nat.le_of_ble_eq_true rfl, Nat.le_of_ble_eq_true rfl⟩ rfl hl.1 rfl (Nat.le_of_ble_eq_true rfl) dX10_writeNotice_103 rfl (fun b_23 => ?_)
              have k_24 := hok.1
              have hok := hok.2
              refine w_V (own := RX10) (cs := [wMo G dh0 dh1 dh2 dh3 dh4 dh5 dh6 dh7 u_21]) (rs := []) (As := [.int (f_X10_of u_21 dr (1 : Int32))]) (rest := []) (c_X10_number l G dh0 dh1 dh2 dh3 dh4 dh5 dh6 dh7 H.size u_21 (f_X10_of u_21 dr (1 : Int32)) k_24) ⟨hx, hb, hml, hown, hts⟩ g_X10_169 hdv_X10_number hK hST hS hP hD hA [0] [] rfl rfl rfl (k0 := 0) rfl rfl rfl ⟨Nat.le_of_ble_eq_true rfl, Nat.le_of_ble_eq_true rfl⟩ ⟨Nat.le_of_ble_eq_true rfl, Nat.le_of_ble_eq_true rfl⟩ rfl hl.1 rfl (Nat.le_of_ble_eq_true rfl) dX10_writeNotice_106 (fun u_26 H locs huu hP hD hS => ?_)
              have eu_26 := huu
              have hP : va_P G.1 vwCl (fl [wMo G dh0 dh1 dh2 dh3 dh4 dh5 dh6 dh7 u_26]) H := hP
              have hD : va_D A (fl [wMo G dh0 dh1 dh2 dh3 dh4 dh5 dh6 dh7 u_26]) := hD
              refine W.eq (g2 := F0 m 109 ls []) rfl ?_
              have hF : f_X10_writeNotice d dr = (let u_29 : MoV := (f_X10_puts u_26 (45 : Int32)); (let u_34 : MoV := (f_X10_number u_29 (f_X10_of u_29 dr (2 : Int32))); (let u_37 : MoV := (f_X10_puts u_34 (32 : Int32)); (let u_40 : MoV := (f_X10_puts u_37 (107 : Int32)); (let u_45 : MoV := (f_X10_number u_40 (f_X10_of u_40 dr (3 : Int32))); (if (f_X10_unlocked u_45 dr (u_45.1 (0 : Int32).toNatClampNeg)) = (0 : Int32) then (u_45.2.2.2.2.2.2.2.2.2.2.2.1, u_45) else (let u_51 : MoV := (f_X10_puts u_45 (33 : Int32)); (u_51.2.2.2.2.2.2.2.2.2.2.2.1, u_51)))))))) := by subst eu_26; exact hF
              have hok : (ok_X10_puts u_26 (45 : Int32) ∧ (let u_29 : MoV := (f_X10_puts u_26 (45 : Int32)); (ok_X10_of u_29 dr (2 : Int32) ∧ (ok_X10_number u_29 (f_X10_of u_29 dr (2 : Int32)) ∧ (let u_34 : MoV := (f_X10_number u_29 (f_X10_of u_29 dr (2 : Int32))); (ok_X10_puts u_34 (32 : Int32) ∧ (let u_37 : MoV := (f_X10_puts u_34 (32 : Int32)); (ok_X10_puts u_37 (107 : Int32) ∧ (let u_40 : MoV := (f_X10_puts u_37 (107 : Int32)); (ok_X10_of u_40 dr (3 : Int32) ∧ (ok_X10_number u_40 (f_X10_of u_40 dr (3 : Int32)) ∧ (let u_45 : MoV := (f_X10_number u_40 (f_X10_of u_40 dr (3 : Int32))); (ok_X10_unlocked u_45 dr (u_45.1 (0 : Int32).toNatClampNeg) ∧ (if (f_X10_unlocked u_45 dr (u_45.1 (0 : Int32).toNatClampNeg)) = (0 : Int32) then True else (ok_X10_puts u_45 (33 : Int32) ∧ True))))))))))))))) := by subst eu_26; exact hok
              refine lv_aload_n hx hb dX10_writeNotice_109 rfl (lv_at hl 1 rfl) ?_
              refine lv_bipush (v := (45 : Int32)) hx hb dX10_writeNotice_110 (by decide) ?_
              have k_27 := hok.1
              have hok := hok.2
              refine w_V (own := RX10) (cs := [wMo G dh0 dh1 dh2 dh3 dh4 dh5 dh6 dh7 u_26]) (rs := []) (As := [.int (45 : Int32)]) (rest := []) (c_X10_puts l G dh0 dh1 dh2 dh3 dh4 dh5 dh6 dh7 H.size u_26 (45 : Int32) k_27) ⟨hx, hb, hml, hown, hts⟩ g_X10_173 hdv_X10_puts hK hST hS hP hD hA [0] [] rfl rfl rfl (k0 := 0) rfl rfl rfl ⟨Nat.le_of_ble_eq_true rfl, Nat.le_of_ble_eq_true rfl⟩ ⟨Nat.le_of_ble_eq_true rfl, Nat.le_of_ble_eq_true rfl⟩ rfl hl.1 rfl (Nat.le_of_ble_eq_true rfl) dX10_writeNotice_112 (fun u_29 H locs huu hP hD hS => ?_)
              have eu_29 := huu
              have hP : va_P G.1 vwCl (fl [wMo G dh0 dh1 dh2 dh3 dh4 dh5 dh6 dh7 u_29]) H := hP
              have hD : va_D A (fl [wMo G dh0 dh1 dh2 dh3 dh4 dh5 dh6 dh7 u_29]) := hD
              refine W.eq (g2 := F0 m 115 ls []) rfl ?_
              have hF : f_X10_writeNotice d dr = (let u_34 : MoV := (f_X10_number u_29 (f_X10_of u_29 dr (2 : Int32))); (let u_37 : MoV := (f_X10_puts u_34 (32 : Int32)); (let u_40 : MoV := (f_X10_puts u_37 (107 : Int32)); (let u_45 : MoV := (f_X10_number u_40 (f_X10_of u_40 dr (3 : Int32))); (if (f_X10_unlocked u_45 dr (u_45.1 (0 : Int32).toNatClampNeg)) = (0 : Int32) then (u_45.2.2.2.2.2.2.2.2.2.2.2.1, u_45) else (let u_51 : MoV := (f_X10_puts u_45 (33 : Int32)); (u_51.2.2.2.2.2.2.2.2.2.2.2.1, u_51))))))) := by subst eu_29; exact hF
              have hok : (ok_X10_of u_29 dr (2 : Int32) ∧ (ok_X10_number u_29 (f_X10_of u_29 dr (2 : Int32)) ∧ (let u_34 : MoV := (f_X10_number u_29 (f_X10_of u_29 dr (2 : Int32))); (ok_X10_puts u_34 (32 : Int32) ∧ (let u_37 : MoV := (f_X10_puts u_34 (32 : Int32)); (ok_X10_puts u_37 (107 : Int32) ∧ (let u_40 : MoV := (f_X10_puts u_37 (107 : Int32)); (ok_X10_of u_40 dr (3 : Int32) ∧ (ok_X10_number u_40 (f_X10_of u_40 dr (3 : Int32)) ∧ (let u_45 : MoV := (f_X10_number u_40 (f_X10_of u_40 dr (3 : Int32))); (ok_X10_unlocked u_45 dr (u_45.1 (0 : Int32).toNatClampNeg) ∧ (if (f_X10_unlocked u_45 dr (u_45.1 (0 : Int32).toNatClampNeg)) = (0 : Int32) then True else (ok_X10_puts u_45 (33 : Int32) ∧ True))))))))))))) := by subst eu_29; exact hok
              refine lv_aload_n hx hb dX10_writeNotice_115 rfl (lv_at hl 1 rfl) ?_
              refine lv_aload_n hx hb dX10_writeNotice_116 rfl (lv_at hl 1 rfl) ?_
              refine lv_iload_n hx hb dX10_writeNotice_117 rfl (lv_at hl 2 rfl) ?_
              refine lv_iconst (v := (2 : Int32)) hx hb dX10_writeNotice_118 (by decide) ?_
              have k_30 := hok.1
              have hok := hok.2
              refine r_V (own := RX10) (v := (some (.int (f_X10_of u_29 dr (2 : Int32))))) (st1 := [.int (f_X10_of u_29 dr (2 : Int32)), .ref dh0]) (As := [.int dr, .int (2 : Int32)]) (rest := [.ref dh0]) (c_X10_of l G dh0 dh1 dh2 dh3 dh4 dh5 dh6 dh7 u_29 dr (2 : Int32) k_30) ⟨hx, hb, hml, hown, hts⟩ g_X10_78 hdv_X10_of hK hST hS hP [0, 1, 2, 3, 4, 5, 6, 7] rfl (k0 := 0) rfl rfl rfl ⟨Nat.le_of_ble_eq_true rfl, Nat.le_of_ble_eq_true rfl⟩ ⟨Nat.le_of_ble_eq_true rfl, Nat.le_of_ble_eq_true rfl⟩ rfl hl.1 rfl (Nat.le_of_ble_eq_true rfl) dX10_writeNotice_119 rfl (fun b_31 => ?_)
              have k_32 := hok.1
              have hok := hok.2
              refine w_V (own := RX10) (cs := [wMo G dh0 dh1 dh2 dh3 dh4 dh5 dh6 dh7 u_29]) (rs := []) (As := [.int (f_X10_of u_29 dr (2 : Int32))]) (rest := []) (c_X10_number l G dh0 dh1 dh2 dh3 dh4 dh5 dh6 dh7 H.size u_29 (f_X10_of u_29 dr (2 : Int32)) k_32) ⟨hx, hb, hml, hown, hts⟩ g_X10_169 hdv_X10_number hK hST hS hP hD hA [0] [] rfl rfl rfl (k0 := 0) rfl rfl rfl ⟨Nat.le_of_ble_eq_true rfl, Nat.le_of_ble_eq_true rfl⟩ ⟨Nat.le_of_ble_eq_true rfl, Nat.le_of_ble_eq_true rfl⟩ rfl hl.1 rfl (Nat.le_of_ble_eq_true rfl) dX10_writeNotice_122 (fun u_34 H locs huu hP hD hS => ?_)
              have eu_34 := huu
              have hP : va_P G.1 vwCl (fl [wMo G dh0 dh1 dh2 dh3 dh4 dh5 dh6 dh7 u_34]) H := hP
              have hD : va_D A (fl [wMo G dh0 dh1 dh2 dh3 dh4 dh5 dh6 dh7 u_34]) := hD
              refine W.eq (g2 := F0 m 125 ls []) rfl ?_
              have hF : f_X10_writeNotice d dr = (let u_37 : MoV := (f_X10_puts u_34 (32 : Int32)); (let u_40 : MoV := (f_X10_puts u_37 (107 : Int32)); (let u_45 : MoV := (f_X10_number u_40 (f_X10_of u_40 dr (3 : Int32))); (if (f_X10_unlocked u_45 dr (u_45.1 (0 : Int32).toNatClampNeg)) = (0 : Int32) then (u_45.2.2.2.2.2.2.2.2.2.2.2.1, u_45) else (let u_51 : MoV := (f_X10_puts u_45 (33 : Int32)); (u_51.2.2.2.2.2.2.2.2.2.2.2.1, u_51)))))) := by subst eu_34; exact hF
              have hok : (ok_X10_puts u_34 (32 : Int32) ∧ (let u_37 : MoV := (f_X10_puts u_34 (32 : Int32)); (ok_X10_puts u_37 (107 : Int32) ∧ (let u_40 : MoV := (f_X10_puts u_37 (107 : Int32)); (ok_X10_of u_40 dr (3 : Int32) ∧ (ok_X10_number u_40 (f_X10_of u_40 dr (3 : Int32)) ∧ (let u_45 : MoV := (f_X10_number u_40 (f_X10_of u_40 dr (3 : Int32))); (ok_X10_unlocked u_45 dr (u_45.1 (0 : Int32).toNatClampNeg) ∧ (if (f_X10_unlocked u_45 dr (u_45.1 (0 : Int32).toNatClampNeg)) = (0 : Int32) then True else (ok_X10_puts u_45 (33 : Int32) ∧ True)))))))))) := by subst eu_34; exact hok
              refine lv_aload_n hx hb dX10_writeNotice_125 rfl (lv_at hl 1 rfl) ?_
              refine lv_bipush (v := (32 : Int32)) hx hb dX10_writeNotice_126 (by decide) ?_
              have k_35 := hok.1
              have hok := hok.2
              refine w_V (own := RX10) (cs := [wMo G dh0 dh1 dh2 dh3 dh4 dh5 dh6 dh7 u_34]) (rs := []) (As := [.int (32 : Int32)]) (rest := []) (c_X10_puts l G dh0 dh1 dh2 dh3 dh4 dh5 dh6 dh7 H.size u_34 (32 : Int32) k_35) ⟨hx, hb, hml, hown, hts⟩ g_X10_173 hdv_X10_puts hK hST hS hP hD hA [0] [] rfl rfl rfl (k0 := 0) rfl rfl rfl ⟨Nat.le_of_ble_eq_true rfl, Nat.le_of_ble_eq_true rfl⟩ ⟨Nat.le_of_ble_eq_true rfl, Nat.le_of_ble_eq_true rfl⟩ rfl hl.1 rfl (Nat.le_of_ble_eq_true rfl) dX10_writeNotice_128 (fun u_37 H locs huu hP hD hS => ?_)
              have eu_37 := huu
              have hP : va_P G.1 vwCl (fl [wMo G dh0 dh1 dh2 dh3 dh4 dh5 dh6 dh7 u_37]) H := hP
              have hD : va_D A (fl [wMo G dh0 dh1 dh2 dh3 dh4 dh5 dh6 dh7 u_37]) := hD
              refine W.eq (g2 := F0 m 131 ls []) rfl ?_
              have hF : f_X10_writeNotice d dr = (let u_40 : MoV := (f_X10_puts u_37 (107 : Int32)); (let u_45 : MoV := (f_X10_number u_40 (f_X10_of u_40 dr (3 : Int32))); (if (f_X10_unlocked u_45 dr (u_45.1 (0 : Int32).toNatClampNeg)) = (0 : Int32) then (u_45.2.2.2.2.2.2.2.2.2.2.2.1, u_45) else (let u_51 : MoV := (f_X10_puts u_45 (33 : Int32)); (u_51.2.2.2.2.2.2.2.2.2.2.2.1, u_51))))) := by subst eu_37; exact hF
              have hok : (ok_X10_puts u_37 (107 : Int32) ∧ (let u_40 : MoV := (f_X10_puts u_37 (107 : Int32)); (ok_X10_of u_40 dr (3 : Int32) ∧ (ok_X10_number u_40 (f_X10_of u_40 dr (3 : Int32)) ∧ (let u_45 : MoV := (f_X10_number u_40 (f_X10_of u_40 dr (3 : Int32))); (ok_X10_unlocked u_45 dr (u_45.1 (0 : Int32).toNatClampNeg) ∧ (if (f_X10_unlocked u_45 dr (u_45.1 (0 : Int32).toNatClampNeg)) = (0 : Int32) then True else (ok_X10_puts u_45 (33 : Int32) ∧ True)))))))) := by subst eu_37; exact hok
              refine lv_aload_n hx hb dX10_writeNotice_131 rfl (lv_at hl 1 rfl) ?_
              refine lv_bipush (v := (107 : Int32)) hx hb dX10_writeNotice_132 (by decide) ?_
              have k_38 := hok.1
              have hok := hok.2
              refine w_V (own := RX10) (cs := [wMo G dh0 dh1 dh2 dh3 dh4 dh5 dh6 dh7 u_37]) (rs := []) (As := [.int (107 : Int32)]) (rest := []) (c_X10_puts l G dh0 dh1 dh2 dh3 dh4 dh5 dh6 dh7 H.size u_37 (107 : Int32) k_38) ⟨hx, hb, hml, hown, hts⟩ g_X10_173 hdv_X10_puts hK hST hS hP hD hA [0] [] rfl rfl rfl (k0 := 0) rfl rfl rfl ⟨Nat.le_of_ble_eq_true rfl, Nat.le_of_ble_eq_true rfl⟩ ⟨Nat.le_of_ble_eq_true rfl, Nat.le_of_ble_eq_true rfl⟩ rfl hl.1 rfl (Nat.le_of_ble_eq_true rfl) dX10_writeNotice_134 (fun u_40 H locs huu hP hD hS => ?_)
              have eu_40 := huu
              have hP : va_P G.1 vwCl (fl [wMo G dh0 dh1 dh2 dh3 dh4 dh5 dh6 dh7 u_40]) H := hP
              have hD : va_D A (fl [wMo G dh0 dh1 dh2 dh3 dh4 dh5 dh6 dh7 u_40]) := hD
              refine W.eq (g2 := F0 m 137 ls []) rfl ?_
              have hF : f_X10_writeNotice d dr = (let u_45 : MoV := (f_X10_number u_40 (f_X10_of u_40 dr (3 : Int32))); (if (f_X10_unlocked u_45 dr (u_45.1 (0 : Int32).toNatClampNeg)) = (0 : Int32) then (u_45.2.2.2.2.2.2.2.2.2.2.2.1, u_45) else (let u_51 : MoV := (f_X10_puts u_45 (33 : Int32)); (u_51.2.2.2.2.2.2.2.2.2.2.2.1, u_51)))) := by subst eu_40; exact hF
              have hok : (ok_X10_of u_40 dr (3 : Int32) ∧ (ok_X10_number u_40 (f_X10_of u_40 dr (3 : Int32)) ∧ (let u_45 : MoV := (f_X10_number u_40 (f_X10_of u_40 dr (3 : Int32))); (ok_X10_unlocked u_45 dr (u_45.1 (0 : Int32).toNatClampNeg) ∧ (if (f_X10_unlocked u_45 dr (u_45.1 (0 : Int32).toNatClampNeg)) = (0 : Int32) then True else (ok_X10_puts u_45 (33 : Int32) ∧ True)))))) := by subst eu_40; exact hok
              refine lv_aload_n hx hb dX10_writeNotice_137 rfl (lv_at hl 1 rfl) ?_
              refine lv_aload_n hx hb dX10_writeNotice_138 rfl (lv_at hl 1 rfl) ?_
              refine lv_iload_n hx hb dX10_writeNotice_139 rfl (lv_at hl 2 rfl) ?_
              refine lv_iconst (v := (3 : Int32)) hx hb dX10_writeNotice_140 (by decide) ?_
              have k_41 := hok.1
              have hok := hok.2
              refine r_V (own := RX10) (v := (some (.int (f_X10_of u_40 dr (3 : Int32))))) (st1 := [.int (f_X10_of u_40 dr (3 : Int32)), .ref dh0]) (As := [.int dr, .int (3 : Int32)]) (rest := [.ref dh0]) (c_X10_of l G dh0 dh1 dh2 dh3 dh4 dh5 dh6 dh7 u_40 dr (3 : Int32) k_41) ⟨hx, hb, hml, hown, hts⟩ g_X10_78 hdv_X10_of hK hST hS hP [0, 1, 2, 3, 4, 5, 6, 7] rfl (k0 := 0) rfl rfl rfl ⟨Nat.le_of_ble_eq_true rfl, Nat.le_of_ble_eq_true rfl⟩ ⟨Nat.le_of_ble_eq_true rfl, Nat.le_of_ble_eq_true rfl⟩ rfl hl.1 rfl (Nat.le_of_ble_eq_true rfl) dX10_writeNotice_141 rfl (fun b_42 => ?_)
              have k_43 := hok.1
              have hok := hok.2
              refine w_V (own := RX10) (cs := [wMo G dh0 dh1 dh2 dh3 dh4 dh5 dh6 dh7 u_40]) (rs := []) (As := [.int (f_X10_of u_40 dr (3 : Int32))]) (rest := []) (c_X10_number l G dh0 dh1 dh2 dh3 dh4 dh5 dh6 dh7 H.size u_40 (f_X10_of u_40 dr (3 : Int32)) k_43) ⟨hx, hb, hml, hown, hts⟩ g_X10_169 hdv_X10_number hK hST hS hP hD hA [0] [] rfl rfl rfl (k0 := 0) rfl rfl rfl ⟨Nat.le_of_ble_eq_true rfl, Nat.le_of_ble_eq_true rfl⟩ ⟨Nat.le_of_ble_eq_true rfl, Nat.le_of_ble_eq_true rfl⟩ rfl hl.1 rfl (Nat.le_of_ble_eq_true rfl) dX10_writeNotice_144 (fun u_45 H locs huu hP hD hS => ?_)
              have eu_45 := huu
              have hP : va_P G.1 vwCl (fl [wMo G dh0 dh1 dh2 dh3 dh4 dh5 dh6 dh7 u_45]) H := hP
              have hD : va_D A (fl [wMo G dh0 dh1 dh2 dh3 dh4 dh5 dh6 dh7 u_45]) := hD
              refine W.eq (g2 := F0 m 147 ls []) rfl ?_
              have hF : f_X10_writeNotice d dr = (if (f_X10_unlocked u_45 dr (u_45.1 (0 : Int32).toNatClampNeg)) = (0 : Int32) then (u_45.2.2.2.2.2.2.2.2.2.2.2.1, u_45) else (let u_51 : MoV := (f_X10_puts u_45 (33 : Int32)); (u_51.2.2.2.2.2.2.2.2.2.2.2.1, u_51))) := by subst eu_45; exact hF
              have hok : (ok_X10_unlocked u_45 dr (u_45.1 (0 : Int32).toNatClampNeg) ∧ (if (f_X10_unlocked u_45 dr (u_45.1 (0 : Int32).toNatClampNeg)) = (0 : Int32) then True else (ok_X10_puts u_45 (33 : Int32) ∧ True))) := by subst eu_45; exact hok
              refine lv_aload_n hx hb dX10_writeNotice_147 rfl (lv_at hl 1 rfl) ?_
              refine lv_iload_n hx hb dX10_writeNotice_148 rfl (lv_at hl 2 rfl) ?_
              refine lv_aload_n hx hb dX10_writeNotice_149 rfl (lv_at hl 1 rfl) ?_
              refine va_get (D := G.1) (ci := 12) (v := .ref dh1) (C := RX10) (T := TX10) (N := 17) hx hb hts uws_X10 hown hK hP 0 rfl rfl 0 (by decide) (hts _ u_1680) (fun _ h9 => h9) rfl dX10_writeNotice_150 ?_
              refine lv_iconst (v := (0 : Int32)) hx hb dX10_writeNotice_153 (by decide) ?_
              refine va_iald hx hb hK hP 1 0 rfl rfl (vp_in_nI (n := 0) (by decide) (by decide)) dX10_writeNotice_154 ?_
              have k_46 := hok.1
              have hok := hok.2
              refine r_V (own := RX10) (v := (some (.int (f_X10_unlocked u_45 dr (u_45.1 (0 : Int32).toNatClampNeg))))) (st1 := [.int (f_X10_unlocked u_45 dr (u_45.1 (0 : Int32).toNatClampNeg))]) (As := [.int dr, .int (u_45.1 (0 : Int32).toNatClampNeg)]) (rest := []) (c_X10_unlocked l G dh0 dh1 dh2 dh3 dh4 dh5 dh6 dh7 u_45 dr (u_45.1 (0 : Int32).toNatClampNeg) k_46) ⟨hx, hb, hml, hown, hts⟩ g_X10_151 hdv_X10_unlocked hK hST hS hP [0, 1, 2, 3, 4, 5, 6, 7] rfl (k0 := 0) rfl rfl rfl ⟨Nat.le_of_ble_eq_true rfl, Nat.le_of_ble_eq_true rfl⟩ ⟨Nat.le_of_ble_eq_true rfl, Nat.le_of_ble_eq_true rfl⟩ rfl hl.1 rfl (Nat.le_of_ble_eq_true rfl) dX10_writeNotice_155 rfl (fun b_47 => ?_)
              refine lv_if_eq (tgt := 167) hx hb dX10_writeNotice_158 (by decide) (fun c_48 => ?_) (fun c_48 => ?_)
              · have hF := hF.trans (if_pos c_48)
                have hok := Eq.mp (if_pos c_48) hok
                refine lv_aload_n hx hb dX10_writeNotice_167 rfl (lv_at hl 1 rfl) ?_
                refine va_get (D := G.1) (ci := 12) (v := .int u_45.2.2.2.2.2.2.2.2.2.2.2.1) (C := RX10) (T := TX10) (N := 17) hx hb hts uws_X10 hown hK hP 0 rfl rfl 11 (by decide) (hts _ u_1691) (fun _ h9 => h9) rfl dX10_writeNotice_168 ?_
                exact w_ret (u := (u_45.2.2.2.2.2.2.2.2.2.2.2.1, u_45)) hx hb hr hlk rfl hS rfl hF.symm hP hD (Nat.le_of_ble_eq_true rfl) (Nat.le_of_ble_eq_true rfl) dX10_writeNotice_171
              · have hF := hF.trans (if_neg c_48)
                have hok := Eq.mp (if_neg c_48) hok
                refine lv_aload_n hx hb dX10_writeNotice_161 rfl (lv_at hl 1 rfl) ?_
                refine lv_bipush (v := (33 : Int32)) hx hb dX10_writeNotice_162 (by decide) ?_
                have k_49 := hok.1
                have hok := hok.2
                refine w_V (own := RX10) (cs := [wMo G dh0 dh1 dh2 dh3 dh4 dh5 dh6 dh7 u_45]) (rs := []) (As := [.int (33 : Int32)]) (rest := []) (c_X10_puts l G dh0 dh1 dh2 dh3 dh4 dh5 dh6 dh7 H.size u_45 (33 : Int32) k_49) ⟨hx, hb, hml, hown, hts⟩ g_X10_173 hdv_X10_puts hK hST hS hP hD hA [0] [] rfl rfl rfl (k0 := 0) rfl rfl rfl ⟨Nat.le_of_ble_eq_true rfl, Nat.le_of_ble_eq_true rfl⟩ ⟨Nat.le_of_ble_eq_true rfl, Nat.le_of_ble_eq_true rfl⟩ rfl hl.1 rfl (Nat.le_of_ble_eq_true rfl) dX10_writeNotice_164 (fun u_51 H locs huu hP hD hS => ?_)
                have eu_51 := huu
                have hP : va_P G.1 vwCl (fl [wMo G dh0 dh1 dh2 dh3 dh4 dh5 dh6 dh7 u_51]) H := hP
                have hD : va_D A (fl [wMo G dh0 dh1 dh2 dh3 dh4 dh5 dh6 dh7 u_51]) := hD
                refine W.eq (g2 := F0 m 167 ls []) rfl ?_
                have hF : f_X10_writeNotice d dr = (u_51.2.2.2.2.2.2.2.2.2.2.2.1, u_51) := by subst eu_51; exact hF
                refine lv_aload_n hx hb dX10_writeNotice_167 rfl (lv_at hl 1 rfl) ?_
                refine va_get (D := G.1) (ci := 12) (v := .int u_51.2.2.2.2.2.2.2.2.2.2.2.1) (C := RX10) (T := TX10) (N := 17) hx hb hts uws_X10 hown hK hP 0 rfl rfl 11 (by decide) (hts _ u_1691) (fun _ h9 => h9) rfl dX10_writeNotice_168 ?_
                exact w_ret (u := (u_51.2.2.2.2.2.2.2.2.2.2.2.1, u_51)) hx hb hr hlk rfl hS rfl hF.symm hP hD (Nat.le_of_ble_eq_true rfl) (Nat.le_of_ble_eq_true rfl) dX10_writeNotice_171
            · have hF := hF.trans (if_pos c_18)
              have hok := Eq.mp (if_pos c_18) hok
              refine lv_aload_n hx hb dX10_writeNotice_87 rfl (lv_at hl 1 rfl) ?_
              refine lv_bipush (v := (45 : Int32)) hx hb dX10_writeNotice_88 (by decide) ?_
              have k_52 := hok.1
              have hok := hok.2
              refine w_V (own := RX10) (cs := [wMo G dh0 dh1 dh2 dh3 dh4 dh5 dh6 dh7 dL]) (rs := []) (As := [.int (45 : Int32)]) (rest := []) (c_X10_puts l G dh0 dh1 dh2 dh3 dh4 dh5 dh6 dh7 H.size dL (45 : Int32) k_52) ⟨hx, hb, hml, hown, hts⟩ g_X10_173 hdv_X10_puts hK hST hS hP hD hA [0] [] rfl rfl rfl (k0 := 0) rfl rfl rfl ⟨Nat.le_of_ble_eq_true rfl, Nat.le_of_ble_eq_true rfl⟩ ⟨Nat.le_of_ble_eq_true rfl, Nat.le_of_ble_eq_true rfl⟩ rfl hl.1 rfl (Nat.le_of_ble_eq_true rfl) dX10_writeNotice_90 (fun u_54 H locs huu hP hD hS => ?_)
              have eu_54 := huu
              have hP : va_P G.1 vwCl (fl [wMo G dh0 dh1 dh2 dh3 dh4 dh5 dh6 dh7 u_54]) H := hP
              have hD : va_D A (fl [wMo G dh0 dh1 dh2 dh3 dh4 dh5 dh6 dh7 u_54]) := hD
              refine W.eq (g2 := F0 m 93 ls []) rfl ?_
              have hF : f_X10_writeNotice d dr = (let u_57 : MoV := (f_X10_puts u_54 (32 : Int32)); (let u_62 : MoV := (f_X10_number u_57 (f_X10_of u_57 dr (1 : Int32))); (let u_65 : MoV := (f_X10_puts u_62 (45 : Int32)); (let u_70 : MoV := (f_X10_number u_65 (f_X10_of u_65 dr (2 : Int32))); (let u_73 : MoV := (f_X10_puts u_70 (32 : Int32)); (let u_76 : MoV := (f_X10_puts u_73 (107 : Int32)); (let u_81 : MoV := (f_X10_number u_76 (f_X10_of u_76 dr (3 : Int32))); (if (f_X10_unlocked u_81 dr (u_81.1 (0 : Int32).toNatClampNeg)) = (0 : Int32) then (u_81.2.2.2.2.2.2.2.2.2.2.2.1, u_81) else (let u_87 : MoV := (f_X10_puts u_81 (33 : Int32)); (u_87.2.2.2.2.2.2.2.2.2.2.2.1, u_87)))))))))) := by subst eu_54; exact hF
              have hok : (ok_X10_puts u_54 (32 : Int32) ∧ (let u_57 : MoV := (f_X10_puts u_54 (32 : Int32)); (ok_X10_of u_57 dr (1 : Int32) ∧ (ok_X10_number u_57 (f_X10_of u_57 dr (1 : Int32)) ∧ (let u_62 : MoV := (f_X10_number u_57 (f_X10_of u_57 dr (1 : Int32))); (ok_X10_puts u_62 (45 : Int32) ∧ (let u_65 : MoV := (f_X10_puts u_62 (45 : Int32)); (ok_X10_of u_65 dr (2 : Int32) ∧ (ok_X10_number u_65 (f_X10_of u_65 dr (2 : Int32)) ∧ (let u_70 : MoV := (f_X10_number u_65 (f_X10_of u_65 dr (2 : Int32))); (ok_X10_puts u_70 (32 : Int32) ∧ (let u_73 : MoV := (f_X10_puts u_70 (32 : Int32)); (ok_X10_puts u_73 (107 : Int32) ∧ (let u_76 : MoV := (f_X10_puts u_73 (107 : Int32)); (ok_X10_of u_76 dr (3 : Int32) ∧ (ok_X10_number u_76 (f_X10_of u_76 dr (3 : Int32)) ∧ (let u_81 : MoV := (f_X10_number u_76 (f_X10_of u_76 dr (3 : Int32))); (ok_X10_unlocked u_81 dr (u_81.1 (0 : Int32).toNatClampNeg) ∧ (if (f_X10_unlocked u_81 dr (u_81.1 (0 : Int32).toNatClampNeg)) = (0 : Int32) then True else (ok_X10_puts u_81 (33 : Int32) ∧ True)))))))))))))))))))) := by subst eu_54; exact hok
              refine lv_aload_n hx hb dX10_writeNotice_93 rfl (lv_at hl 1 rfl) ?_
              refine lv_bipush (v := (32 : Int32)) hx hb dX10_writeNotice_94 (by decide) ?_
              have k_55 := hok.1
              have hok := hok.2
              refine w_V (own := RX10) (cs := [wMo G dh0 dh1 dh2 dh3 dh4 dh5 dh6 dh7 u_54]) (rs := []) (As := [.int (32 : Int32)]) (rest := []) (c_X10_puts l G dh0 dh1 dh2 dh3 dh4 dh5 dh6 dh7 H.size u_54 (32 : Int32) k_55) ⟨hx, hb, hml, hown, hts⟩ g_X10_173 hdv_X10_puts hK hST hS hP hD hA [0] [] rfl rfl rfl (k0 := 0) rfl rfl rfl ⟨Nat.le_of_ble_eq_true rfl, Nat.le_of_ble_eq_true rfl⟩ ⟨Nat.le_of_ble_eq_true rfl, Nat.le_of_ble_eq_true rfl⟩ rfl hl.1 rfl (Nat.le_of_ble_eq_true rfl) dX10_writeNotice_96 (fun u_57 H locs huu hP hD hS => ?_)
              have eu_57 := huu
              have hP : va_P G.1 vwCl (fl [wMo G dh0 dh1 dh2 dh3 dh4 dh5 dh6 dh7 u_57]) H := hP
              have hD : va_D A (fl [wMo G dh0 dh1 dh2 dh3 dh4 dh5 dh6 dh7 u_57]) := hD
              refine W.eq (g2 := F0 m 99 ls []) rfl ?_
              have hF : f_X10_writeNotice d dr = (let u_62 : MoV := (f_X10_number u_57 (f_X10_of u_57 dr (1 : Int32))); (let u_65 : MoV := (f_X10_puts u_62 (45 : Int32)); (let u_70 : MoV := (f_X10_number u_65 (f_X10_of u_65 dr (2 : Int32))); (let u_73 : MoV := (f_X10_puts u_70 (32 : Int32)); (let u_76 : MoV := (f_X10_puts u_73 (107 : Int32)); (let u_81 : MoV := (f_X10_number u_76 (f_X10_of u_76 dr (3 : Int32))); (if (f_X10_unlocked u_81 dr (u_81.1 (0 : Int32).toNatClampNeg)) = (0 : Int32) then (u_81.2.2.2.2.2.2.2.2.2.2.2.1, u_81) else (let u_87 : MoV := (f_X10_puts u_81 (33 : Int32)); (u_87.2.2.2.2.2.2.2.2.2.2.2.1, u_87))))))))) := by subst eu_57; exact hF
              have hok : (ok_X10_of u_57 dr (1 : Int32) ∧ (ok_X10_number u_57 (f_X10_of u_57 dr (1 : Int32)) ∧ (let u_62 : MoV := (f_X10_number u_57 (f_X10_of u_57 dr (1 : Int32))); (ok_X10_puts u_62 (45 : Int32) ∧ (let u_65 : MoV := (f_X10_puts u_62 (45 : Int32)); (ok_X10_of u_65 dr (2 : Int32) ∧ (ok_X10_number u_65 (f_X10_of u_65 dr (2 : Int32)) ∧ (let u_70 : MoV := (f_X10_number u_65 (f_X10_of u_65 dr (2 : Int32))); (ok_X10_puts u_70 (32 : Int32) ∧ (let u_73 : MoV := (f_X10_puts u_70 (32 : Int32)); (ok_X10_puts u_73 (107 : Int32) ∧ (let u_76 : MoV := (f_X10_puts u_73 (107 : Int32)); (ok_X10_of u_76 dr (3 : Int32) ∧ (ok_X10_number u_76 (f_X10_of u_76 dr (3 : Int32)) ∧ (let u_81 : MoV := (f_X10_number u_76 (f_X10_of u_76 dr (3 : Int32))); (ok_X10_unlocked u_81 dr (u_81.1 (0 : Int32).toNatClampNeg) ∧ (if (f_X10_unlocked u_81 dr (u_81.1 (0 : Int32).toNatClampNeg)) = (0 : Int32) then True else (ok_X10_puts u_81 (33 : Int32) ∧ True)))))))))))))))))) := by subst eu_57; exact hok
              refine lv_aload_n hx hb dX10_writeNotice_99 rfl (lv_at hl 1 rfl) ?_
              refine lv_aload_n hx hb dX10_writeNotice_100 rfl (lv_at hl 1 rfl) ?_
              refine lv_iload_n hx hb dX10_writeNotice_101 rfl (lv_at hl 2 rfl) ?_
              refine lv_iconst (v := (1 : Int32)) hx hb dX10_writeNotice_102 (by decide) ?_
              have k_58 := hok.1
              have hok := hok.2
              refine r_V (own := RX10) (v := (some (.int (f_X10_of u_57 dr (1 : Int32))))) (st1 := [.int (f_X10_of u_57 dr (1 : Int32)), .ref dh0]) (As := [.int dr, .int (1 : Int32)]) (rest := [.ref dh0]) (c_X10_of l G dh0 dh1 dh2 dh3 dh4 dh5 dh6 dh7 u_57 dr (1 : Int32) k_58) ⟨hx, hb, hml, hown, hts⟩ g_X10_78 hdv_X10_of hK hST hS hP [0, 1, 2, 3, 4, 5, 6, 7] rfl (k0 := 0) rfl rfl rfl ⟨Nat.le_of_ble_eq_true rfl, Nat.le_of_ble_eq_true rfl⟩ ⟨Nat.le_of_ble_eq_true rfl, Nat.le_of_ble_eq_true rfl⟩ rfl hl.1 rfl (Nat.le_of_ble_eq_true rfl) dX10_writeNotice_103 rfl (fun b_59 => ?_)
              have k_60 := hok.1
              have hok := hok.2
              refine w_V (own := RX10) (cs := [wMo G dh0 dh1 dh2 dh3 dh4 dh5 dh6 dh7 u_57]) (rs := []) (As := [.int (f_X10_of u_57 dr (1 : Int32))]) (rest := []) (c_X10_number l G dh0 dh1 dh2 dh3 dh4 dh5 dh6 dh7 H.size u_57 (f_X10_of u_57 dr (1 : Int32)) k_60) ⟨hx, hb, hml, hown, hts⟩ g_X10_169 hdv_X10_number hK hST hS hP hD hA [0] [] rfl rfl rfl (k0 := 0) rfl rfl rfl ⟨Nat.le_of_ble_eq_true rfl, Nat.le_of_ble_eq_true rfl⟩ ⟨Nat.le_of_ble_eq_true rfl, Nat.le_of_ble_eq_true rfl⟩ rfl hl.1 rfl (Nat.le_of_ble_eq_true rfl) dX10_writeNotice_106 (fun u_62 H locs huu hP hD hS => ?_)
              have eu_62 := huu
              have hP : va_P G.1 vwCl (fl [wMo G dh0 dh1 dh2 dh3 dh4 dh5 dh6 dh7 u_62]) H := hP
              have hD : va_D A (fl [wMo G dh0 dh1 dh2 dh3 dh4 dh5 dh6 dh7 u_62]) := hD
              refine W.eq (g2 := F0 m 109 ls []) rfl ?_
              have hF : f_X10_writeNotice d dr = (let u_65 : MoV := (f_X10_puts u_62 (45 : Int32)); (let u_70 : MoV := (f_X10_number u_65 (f_X10_of u_65 dr (2 : Int32))); (let u_73 : MoV := (f_X10_puts u_70 (32 : Int32)); (let u_76 : MoV := (f_X10_puts u_73 (107 : Int32)); (let u_81 : MoV := (f_X10_number u_76 (f_X10_of u_76 dr (3 : Int32))); (if (f_X10_unlocked u_81 dr (u_81.1 (0 : Int32).toNatClampNeg)) = (0 : Int32) then (u_81.2.2.2.2.2.2.2.2.2.2.2.1, u_81) else (let u_87 : MoV := (f_X10_puts u_81 (33 : Int32)); (u_87.2.2.2.2.2.2.2.2.2.2.2.1, u_87)))))))) := by subst eu_62; exact hF
              have hok : (ok_X10_puts u_62 (45 : Int32) ∧ (let u_65 : MoV := (f_X10_puts u_62 (45 : Int32)); (ok_X10_of u_65 dr (2 : Int32) ∧ (ok_X10_number u_65 (f_X10_of u_65 dr (2 : Int32)) ∧ (let u_70 : MoV := (f_X10_number u_65 (f_X10_of u_65 dr (2 : Int32))); (ok_X10_puts u_70 (32 : Int32) ∧ (let u_73 : MoV := (f_X10_puts u_70 (32 : Int32)); (ok_X10_puts u_73 (107 : Int32) ∧ (let u_76 : MoV := (f_X10_puts u_73 (107 : Int32)); (ok_X10_of u_76 dr (3 : Int32) ∧ (ok_X10_number u_76 (f_X10_of u_76 dr (3 : Int32)) ∧ (let u_81 : MoV := (f_X10_number u_76 (f_X10_of u_76 dr (3 : Int32))); (ok_X10_unlocked u_81 dr (u_81.1 (0 : Int32).toNatClampNeg) ∧ (if (f_X10_unlocked u_81 dr (u_81.1 (0 : Int32).toNatClampNeg)) = (0 : Int32) then True else (ok_X10_puts u_81 (33 : Int32) ∧ True))))))))))))))) := by subst eu_62; exact hok
              refine lv_aload_n hx hb dX10_writeNotice_109 rfl (lv_at hl 1 rfl) ?_
              refine lv_bipush (v := (45 : Int32)) hx hb dX10_writeNotice_110 (by decide) ?_
              have k_63 := hok.1
              have hok := hok.2
              refine w_V (own := RX10) (cs := [wMo G dh0 dh1 dh2 dh3 dh4 dh5 dh6 dh7 u_62]) (rs := []) (As := [.int (45 : Int32)]) (rest := []) (c_X10_puts l G dh0 dh1 dh2 dh3 dh4 dh5 dh6 dh7 H.size u_62 (45 : Int32) k_63) ⟨hx, hb, hml, hown, hts⟩ g_X10_173 hdv_X10_puts hK hST hS hP hD hA [0] [] rfl rfl rfl (k0 := 0) rfl rfl rfl ⟨Nat.le_of_ble_eq_true rfl, Nat.le_of_ble_eq_true rfl⟩ ⟨Nat.le_of_ble_eq_true rfl, Nat.le_of_ble_eq_true rfl⟩ rfl hl.1 rfl (Nat.le_of_ble_eq_true rfl) dX10_writeNotice_112 (fun u_65 H locs huu hP hD hS => ?_)
              have eu_65 := huu
              have hP : va_P G.1 vwCl (fl [wMo G dh0 dh1 dh2 dh3 dh4 dh5 dh6 dh7 u_65]) H := hP
              have hD : va_D A (fl [wMo G dh0 dh1 dh2 dh3 dh4 dh5 dh6 dh7 u_65]) := hD
              refine W.eq (g2 := F0 m 115 ls []) rfl ?_
              have hF : f_X10_writeNotice d dr = (let u_70 : MoV := (f_X10_number u_65 (f_X10_of u_65 dr (2 : Int32))); (let u_73 : MoV := (f_X10_puts u_70 (32 : Int32)); (let u_76 : MoV := (f_X10_puts u_73 (107 : Int32)); (let u_81 : MoV := (f_X10_number u_76 (f_X10_of u_76 dr (3 : Int32))); (if (f_X10_unlocked u_81 dr (u_81.1 (0 : Int32).toNatClampNeg)) = (0 : Int32) then (u_81.2.2.2.2.2.2.2.2.2.2.2.1, u_81) else (let u_87 : MoV := (f_X10_puts u_81 (33 : Int32)); (u_87.2.2.2.2.2.2.2.2.2.2.2.1, u_87))))))) := by subst eu_65; exact hF
              have hok : (ok_X10_of u_65 dr (2 : Int32) ∧ (ok_X10_number u_65 (f_X10_of u_65 dr (2 : Int32)) ∧ (let u_70 : MoV := (f_X10_number u_65 (f_X10_of u_65 dr (2 : Int32))); (ok_X10_puts u_70 (32 : Int32) ∧ (let u_73 : MoV := (f_X10_puts u_70 (32 : Int32)); (ok_X10_puts u_73 (107 : Int32) ∧ (let u_76 : MoV := (f_X10_puts u_73 (107 : Int32)); (ok_X10_of u_76 dr (3 : Int32) ∧ (ok_X10_number u_76 (f_X10_of u_76 dr (3 : Int32)) ∧ (let u_81 : MoV := (f_X10_number u_76 (f_X10_of u_76 dr (3 : Int32))); (ok_X10_unlocked u_81 dr (u_81.1 (0 : Int32).toNatClampNeg) ∧ (if (f_X10_unlocked u_81 dr (u_81.1 (0 : Int32).toNatClampNeg)) = (0 : Int32) then True else (ok_X10_puts u_81 (33 : Int32) ∧ True))))))))))))) := by subst eu_65; exact hok
              refine lv_aload_n hx hb dX10_writeNotice_115 rfl (lv_at hl 1 rfl) ?_
              refine lv_aload_n hx hb dX10_writeNotice_116 rfl (lv_at hl 1 rfl) ?_
              refine lv_iload_n hx hb dX10_writeNotice_117 rfl (lv_at hl 2 rfl) ?_
              refine lv_iconst (v := (2 : Int32)) hx hb dX10_writeNotice_118 (by decide) ?_
              have k_66 := hok.1
              have hok := hok.2
              refine r_V (own := RX10) (v := (some (.int (f_X10_of u_65 dr (2 : Int32))))) (st1 := [.int (f_X10_of u_65 dr (2 : Int32)), .ref dh0]) (As := [.int dr, .int (2 : Int32)]) (rest := [.ref dh0]) (c_X10_of l G dh0 dh1 dh2 dh3 dh4 dh5 dh6 dh7 u_65 dr (2 : Int32) k_66) ⟨hx, hb, hml, hown, hts⟩ g_X10_78 hdv_X10_of hK hST hS hP [0, 1, 2, 3, 4, 5, 6, 7] rfl (k0 := 0) rfl rfl rfl ⟨Nat.le_of_ble_eq_true rfl, Nat.le_of_ble_eq_true rfl⟩ ⟨Nat.le_of_ble_eq_true rfl, Nat.le_of_ble_eq_true rfl⟩ rfl hl.1 rfl (Nat.le_of_ble_eq_true rfl) dX10_writeNotice_119 rfl (fun b_67 => ?_)
              have k_68 := hok.1
              have hok := hok.2
              refine w_V (own := RX10) (cs := [wMo G dh0 dh1 dh2 dh3 dh4 dh5 dh6 dh7 u_65]) (rs := []) (As := [.int (f_X10_of u_65 dr (2 : Int32))]) (rest := []) (c_X10_number l G dh0 dh1 dh2 dh3 dh4 dh5 dh6 dh7 H.size u_65 (f_X10_of u_65 dr (2 : Int32)) k_68) ⟨hx, hb, hml, hown, hts⟩ g_X10_169 hdv_X10_number hK hST hS hP hD hA [0] [] rfl rfl rfl (k0 := 0) rfl rfl rfl ⟨Nat.le_of_ble_eq_true rfl, Nat.le_of_ble_eq_true rfl⟩ ⟨Nat.le_of_ble_eq_true rfl, Nat.le_of_ble_eq_true rfl⟩ rfl hl.1 rfl (Nat.le_of_ble_eq_true rfl) dX10_writeNotice_122 (fun u_70 H locs huu hP hD hS => ?_)
              have eu_70 := huu
              have hP : va_P G.1 vwCl (fl [wMo G dh0 dh1 dh2 dh3 dh4 dh5 dh6 dh7 u_70]) H := hP
              have hD : va_D A (fl [wMo G dh0 dh1 dh2 dh3 dh4 dh5 dh6 dh7 u_70]) := hD
              refine W.eq (g2 := F0 m 125 ls []) rfl ?_
              have hF : f_X10_writeNotice d dr = (let u_73 : MoV := (f_X10_puts u_70 (32 : Int32)); (let u_76 : MoV := (f_X10_puts u_73 (107 : Int32)); (let u_81 : MoV := (f_X10_number u_76 (f_X10_of u_76 dr (3 : Int32))); (if (f_X10_unlocked u_81 dr (u_81.1 (0 : Int32).toNatClampNeg)) = (0 : Int32) then (u_81.2.2.2.2.2.2.2.2.2.2.2.1, u_81) else (let u_87 : MoV := (f_X10_puts u_81 (33 : Int32)); (u_87.2.2.2.2.2.2.2.2.2.2.2.1, u_87)))))) := by subst eu_70; exact hF
              have hok : (ok_X10_puts u_70 (32 : Int32) ∧ (let u_73 : MoV := (f_X10_puts u_70 (32 : Int32)); (ok_X10_puts u_73 (107 : Int32) ∧ (let u_76 : MoV := (f_X10_puts u_73 (107 : Int32)); (ok_X10_of u_76 dr (3 : Int32) ∧ (ok_X10_number u_76 (f_X10_of u_76 dr (3 : Int32)) ∧ (let u_81 : MoV := (f_X10_number u_76 (f_X10_of u_76 dr (3 : Int32))); (ok_X10_unlocked u_81 dr (u_81.1 (0 : Int32).toNatClampNeg) ∧ (if (f_X10_unlocked u_81 dr (u_81.1 (0 : Int32).toNatClampNeg)) = (0 : Int32) then True else (ok_X10_puts u_81 (33 : Int32) ∧ True)))))))))) := by subst eu_70; exact hok
              refine lv_aload_n hx hb dX10_writeNotice_125 rfl (lv_at hl 1 rfl) ?_
              refine lv_bipush (v := (32 : Int32)) hx hb dX10_writeNotice_126 (by decide) ?_
              have k_71 := hok.1
              have hok := hok.2
              refine w_V (own := RX10) (cs := [wMo G dh0 dh1 dh2 dh3 dh4 dh5 dh6 dh7 u_70]) (rs := []) (As := [.int (32 : Int32)]) (rest := []) (c_X10_puts l G dh0 dh1 dh2 dh3 dh4 dh5 dh6 dh7 H.size u_70 (32 : Int32) k_71) ⟨hx, hb, hml, hown, hts⟩ g_X10_173 hdv_X10_puts hK hST hS hP hD hA [0] [] rfl rfl rfl (k0 := 0) rfl rfl rfl ⟨Nat.le_of_ble_eq_true rfl, Nat.le_of_ble_eq_true rfl⟩ ⟨Nat.le_of_ble_eq_true rfl, Nat.le_of_ble_eq_true rfl⟩ rfl hl.1 rfl (Nat.le_of_ble_eq_true rfl) dX10_writeNotice_128 (fun u_73 H locs huu hP hD hS => ?_)
              have eu_73 := huu
              have hP : va_P G.1 vwCl (fl [wMo G dh0 dh1 dh2 dh3 dh4 dh5 dh6 dh7 u_73]) H := hP
              have hD : va_D A (fl [wMo G dh0 dh1 dh2 dh3 dh4 dh5 dh6 dh7 u_73]) := hD
              refine W.eq (g2 := F0 m 131 ls []) rfl ?_
              have hF : f_X10_writeNotice d dr = (let u_76 : MoV := (f_X10_puts u_73 (107 : Int32)); (let u_81 : MoV := (f_X10_number u_76 (f_X10_of u_76 dr (3 : Int32))); (if (f_X10_unlocked u_81 dr (u_81.1 (0 : Int32).toNatClampNeg)) = (0 : Int32) then (u_81.2.2.2.2.2.2.2.2.2.2.2.1, u_81) else (let u_87 : MoV := (f_X10_puts u_81 (33 : Int32)); (u_87.2.2.2.2.2.2.2.2.2.2.2.1, u_87))))) := by subst eu_73; exact hF
              have hok : (ok_X10_puts u_73 (107 : Int32) ∧ (let u_76 : MoV := (f_X10_puts u_73 (107 : Int32)); (ok_X10_of u_76 dr (3 : Int32) ∧ (ok_X10_number u_76 (f_X10_of u_76 dr (3 : Int32)) ∧ (let u_81 : MoV := (f_X10_number u_76 (f_X10_of u_76 dr (3 : Int32))); (ok_X10_unlocked u_81 dr (u_81.1 (0 : Int32).toNatClampNeg) ∧ (if (f_X10_unlocked u_81 dr (u_81.1 (0 : Int32).toNatClampNeg)) = (0 : Int32) then True else (ok_X10_puts u_81 (33 : Int32) ∧ True)))))))) := by subst eu_73; exact hok
              refine lv_aload_n hx hb dX10_writeNotice_131 rfl (lv_at hl 1 rfl) ?_
              refine lv_bipush (v := (107 : Int32)) hx hb dX10_writeNotice_132 (by decide) ?_
              have k_74 := hok.1
              have hok := hok.2
              refine w_V (own := RX10) (cs := [wMo G dh0 dh1 dh2 dh3 dh4 dh5 dh6 dh7 u_73]) (rs := []) (As := [.int (107 : Int32)]) (rest := []) (c_X10_puts l G dh0 dh1 dh2 dh3 dh4 dh5 dh6 dh7 H.size u_73 (107 : Int32) k_74) ⟨hx, hb, hml, hown, hts⟩ g_X10_173 hdv_X10_puts hK hST hS hP hD hA [0] [] rfl rfl rfl (k0 := 0) rfl rfl rfl ⟨Nat.le_of_ble_eq_true rfl, Nat.le_of_ble_eq_true rfl⟩ ⟨Nat.le_of_ble_eq_true rfl, Nat.le_of_ble_eq_true rfl⟩ rfl hl.1 rfl (Nat.le_of_ble_eq_true rfl) dX10_writeNotice_134 (fun u_76 H locs huu hP hD hS => ?_)
              have eu_76 := huu
              have hP : va_P G.1 vwCl (fl [wMo G dh0 dh1 dh2 dh3 dh4 dh5 dh6 dh7 u_76]) H := hP
              have hD : va_D A (fl [wMo G dh0 dh1 dh2 dh3 dh4 dh5 dh6 dh7 u_76]) := hD
              refine W.eq (g2 := F0 m 137 ls []) rfl ?_
              have hF : f_X10_writeNotice d dr = (let u_81 : MoV := (f_X10_number u_76 (f_X10_of u_76 dr (3 : Int32))); (if (f_X10_unlocked u_81 dr (u_81.1 (0 : Int32).toNatClampNeg)) = (0 : Int32) then (u_81.2.2.2.2.2.2.2.2.2.2.2.1, u_81) else (let u_87 : MoV := (f_X10_puts u_81 (33 : Int32)); (u_87.2.2.2.2.2.2.2.2.2.2.2.1, u_87)))) := by subst eu_76; exact hF
              have hok : (ok_X10_of u_76 dr (3 : Int32) ∧ (ok_X10_number u_76 (f_X10_of u_76 dr (3 : Int32)) ∧ (let u_81 : MoV := (f_X10_number u_76 (f_X10_of u_76 dr (3 : Int32))); (ok_X10_unlocked u_81 dr (u_81.1 (0 : Int32).toNatClampNeg) ∧ (if (f_X10_unlocked u_81 dr (u_81.1 (0 : Int32).toNatClampNeg)) = (0 : Int32) then True else (ok_X10_puts u_81 (33 : Int32) ∧ True)))))) := by subst eu_76; exact hok
              refine lv_aload_n hx hb dX10_writeNotice_137 rfl (lv_at hl 1 rfl) ?_
              refine lv_aload_n hx hb dX10_writeNotice_138 rfl (lv_at hl 1 rfl) ?_
              refine lv_iload_n hx hb dX10_writeNotice_139 rfl (lv_at hl 2 rfl) ?_
              refine lv_iconst (v := (3 : Int32)) hx hb dX10_writeNotice_140 (by decide) ?_
              have k_77 := hok.1
              have hok := hok.2
              refine r_V (own := RX10) (v := (some (.int (f_X10_of u_76 dr (3 : Int32))))) (st1 := [.int (f_X10_of u_76 dr (3 : Int32)), .ref dh0]) (As := [.int dr, .int (3 : Int32)]) (rest := [.ref dh0]) (c_X10_of l G dh0 dh1 dh2 dh3 dh4 dh5 dh6 dh7 u_76 dr (3 : Int32) k_77) ⟨hx, hb, hml, hown, hts⟩ g_X10_78 hdv_X10_of hK hST hS hP [0, 1, 2, 3, 4, 5, 6, 7] rfl (k0 := 0) rfl rfl rfl ⟨Nat.le_of_ble_eq_true rfl, Nat.le_of_ble_eq_true rfl⟩ ⟨Nat.le_of_ble_eq_true rfl, Nat.le_of_ble_eq_true rfl⟩ rfl hl.1 rfl (Nat.le_of_ble_eq_true rfl) dX10_writeNotice_141 rfl (fun b_78 => ?_)
              have k_79 := hok.1
              have hok := hok.2
              refine w_V (own := RX10) (cs := [wMo G dh0 dh1 dh2 dh3 dh4 dh5 dh6 dh7 u_76]) (rs := []) (As := [.int (f_X10_of u_76 dr (3 : Int32))]) (rest := []) (c_X10_number l G dh0 dh1 dh2 dh3 dh4 dh5 dh6 dh7 H.size u_76 (f_X10_of u_76 dr (3 : Int32)) k_79) ⟨hx, hb, hml, hown, hts⟩ g_X10_169 hdv_X10_number hK hST hS hP hD hA [0] [] rfl rfl rfl (k0 := 0) rfl rfl rfl ⟨Nat.le_of_ble_eq_true rfl, Nat.le_of_ble_eq_true rfl⟩ ⟨Nat.le_of_ble_eq_true rfl, Nat.le_of_ble_eq_true rfl⟩ rfl hl.1 rfl (Nat.le_of_ble_eq_true rfl) dX10_writeNotice_144 (fun u_81 H locs huu hP hD hS => ?_)
              have eu_81 := huu
              have hP : va_P G.1 vwCl (fl [wMo G dh0 dh1 dh2 dh3 dh4 dh5 dh6 dh7 u_81]) H := hP
              have hD : va_D A (fl [wMo G dh0 dh1 dh2 dh3 dh4 dh5 dh6 dh7 u_81]) := hD
              refine W.eq (g2 := F0 m 147 ls []) rfl ?_
              have hF : f_X10_writeNotice d dr = (if (f_X10_unlocked u_81 dr (u_81.1 (0 : Int32).toNatClampNeg)) = (0 : Int32) then (u_81.2.2.2.2.2.2.2.2.2.2.2.1, u_81) else (let u_87 : MoV := (f_X10_puts u_81 (33 : Int32)); (u_87.2.2.2.2.2.2.2.2.2.2.2.1, u_87))) := by subst eu_81; exact hF
              have hok : (ok_X10_unlocked u_81 dr (u_81.1 (0 : Int32).toNatClampNeg) ∧ (if (f_X10_unlocked u_81 dr (u_81.1 (0 : Int32).toNatClampNeg)) = (0 : Int32) then True else (ok_X10_puts u_81 (33 : Int32) ∧ True))) := by subst eu_81; exact hok
              refine lv_aload_n hx hb dX10_writeNotice_147 rfl (lv_at hl 1 rfl) ?_
              refine lv_iload_n hx hb dX10_writeNotice_148 rfl (lv_at hl 2 rfl) ?_
              refine lv_aload_n hx hb dX10_writeNotice_149 rfl (lv_at hl 1 rfl) ?_
              refine va_get (D := G.1) (ci := 12) (v := .ref dh1) (C := RX10) (T := TX10) (N := 17) hx hb hts uws_X10 hown hK hP 0 rfl rfl 0 (by decide) (hts _ u_1680) (fun _ h9 => h9) rfl dX10_writeNotice_150 ?_
              refine lv_iconst (v := (0 : Int32)) hx hb dX10_writeNotice_153 (by decide) ?_
              refine va_iald hx hb hK hP 1 0 rfl rfl (vp_in_nI (n := 0) (by decide) (by decide)) dX10_writeNotice_154 ?_
              have k_82 := hok.1
              have hok := hok.2
              refine r_V (own := RX10) (v := (some (.int (f_X10_unlocked u_81 dr (u_81.1 (0 : Int32).toNatClampNeg))))) (st1 := [.int (f_X10_unlocked u_81 dr (u_81.1 (0 : Int32).toNatClampNeg))]) (As := [.int dr, .int (u_81.1 (0 : Int32).toNatClampNeg)]) (rest := []) (c_X10_unlocked l G dh0 dh1 dh2 dh3 dh4 dh5 dh6 dh7 u_81 dr (u_81.1 (0 : Int32).toNatClampNeg) k_82) ⟨hx, hb, hml, hown, hts⟩ g_X10_151 hdv_X10_unlocked hK hST hS hP [0, 1, 2, 3, 4, 5, 6, 7] rfl (k0 := 0) rfl rfl rfl ⟨Nat.le_of_ble_eq_true rfl, Nat.le_of_ble_eq_true rfl⟩ ⟨Nat.le_of_ble_eq_true rfl, Nat.le_of_ble_eq_true rfl⟩ rfl hl.1 rfl (Nat.le_of_ble_eq_true rfl) dX10_writeNotice_155 rfl (fun b_83 => ?_)
              refine lv_if_eq (tgt := 167) hx hb dX10_writeNotice_158 (by decide) (fun c_84 => ?_) (fun c_84 => ?_)
              · have hF := hF.trans (if_pos c_84)
                have hok := Eq.mp (if_pos c_84) hok
                refine lv_aload_n hx hb dX10_writeNotice_167 rfl (lv_at hl 1 rfl) ?_
                refine va_get (D := G.1) (ci := 12) (v := .int u_81.2.2.2.2.2.2.2.2.2.2.2.1) (C := RX10) (T := TX10) (N := 17) hx hb hts uws_X10 hown hK hP 0 rfl rfl 11 (by decide) (hts _ u_1691) (fun _ h9 => h9) rfl dX10_writeNotice_168 ?_
                exact w_ret (u := (u_81.2.2.2.2.2.2.2.2.2.2.2.1, u_81)) hx hb hr hlk rfl hS rfl hF.symm hP hD (Nat.le_of_ble_eq_true rfl) (Nat.le_of_ble_eq_true rfl) dX10_writeNotice_171
              · have hF := hF.trans (if_neg c_84)
                have hok := Eq.mp (if_neg c_84) hok
                refine lv_aload_n hx hb dX10_writeNotice_161 rfl (lv_at hl 1 rfl) ?_
                refine lv_bipush (v := (33 : Int32)) hx hb dX10_writeNotice_162 (by decide) ?_
                have k_85 := hok.1
                have hok := hok.2
                refine w_V (own := RX10) (cs := [wMo G dh0 dh1 dh2 dh3 dh4 dh5 dh6 dh7 u_81]) (rs := []) (As := [.int (33 : Int32)]) (rest := []) (c_X10_puts l G dh0 dh1 dh2 dh3 dh4 dh5 dh6 dh7 H.size u_81 (33 : Int32) k_85) ⟨hx, hb, hml, hown, hts⟩ g_X10_173 hdv_X10_puts hK hST hS hP hD hA [0] [] rfl rfl rfl (k0 := 0) rfl rfl rfl ⟨Nat.le_of_ble_eq_true rfl, Nat.le_of_ble_eq_true rfl⟩ ⟨Nat.le_of_ble_eq_true rfl, Nat.le_of_ble_eq_true rfl⟩ rfl hl.1 rfl (Nat.le_of_ble_eq_true rfl) dX10_writeNotice_164 (fun u_87 H locs huu hP hD hS => ?_)
                have eu_87 := huu
                have hP : va_P G.1 vwCl (fl [wMo G dh0 dh1 dh2 dh3 dh4 dh5 dh6 dh7 u_87]) H := hP
                have hD : va_D A (fl [wMo G dh0 dh1 dh2 dh3 dh4 dh5 dh6 dh7 u_87]) := hD
                refine W.eq (g2 := F0 m 167 ls []) rfl ?_
                have hF : f_X10_writeNotice d dr = (u_87.2.2.2.2.2.2.2.2.2.2.2.1, u_87) := by subst eu_87; exact hF
                refine lv_aload_n hx hb dX10_writeNotice_167 rfl (lv_at hl 1 rfl) ?_
                refine va_get (D := G.1) (ci := 12) (v := .int u_87.2.2.2.2.2.2.2.2.2.2.2.1) (C := RX10) (T := TX10) (N := 17) hx hb hts uws_X10 hown hK hP 0 rfl rfl 11 (by decide) (hts _ u_1691) (fun _ h9 => h9) rfl dX10_writeNotice_168 ?_
                exact w_ret (u := (u_87.2.2.2.2.2.2.2.2.2.2.2.1, u_87)) hx hb hr hlk rfl hS rfl hF.symm hP hD (Nat.le_of_ble_eq_true rfl) (Nat.le_of_ble_eq_true rfl) dX10_writeNotice_171
          · have hF := hF.trans (if_neg c_15)
            have hok := Eq.mp (if_neg c_15) hok
            refine lv_aload_n hx hb dX10_writeNotice_53 rfl (lv_at hl 1 rfl) ?_
            refine lv_iload_n hx hb dX10_writeNotice_54 rfl (lv_at hl 2 rfl) ?_
            refine lv_iconst (v := (0 : Int32)) hx hb dX10_writeNotice_55 (by decide) ?_
            have k_88 := hok.1
            have hok := hok.2
            refine r_V (own := RX10) (v := (some (.int (f_X10_of dL dr (0 : Int32))))) (st1 := [.int (f_X10_of dL dr (0 : Int32))]) (As := [.int dr, .int (0 : Int32)]) (rest := []) (c_X10_of l G dh0 dh1 dh2 dh3 dh4 dh5 dh6 dh7 dL dr (0 : Int32) k_88) ⟨hx, hb, hml, hown, hts⟩ g_X10_78 hdv_X10_of hK hST hS hP [0, 1, 2, 3, 4, 5, 6, 7] rfl (k0 := 0) rfl rfl rfl ⟨Nat.le_of_ble_eq_true rfl, Nat.le_of_ble_eq_true rfl⟩ ⟨Nat.le_of_ble_eq_true rfl, Nat.le_of_ble_eq_true rfl⟩ rfl hl.1 rfl (Nat.le_of_ble_eq_true rfl) dX10_writeNotice_56 rfl (fun b_89 => ?_)
            refine lv_iload_n hx hb dX10_writeNotice_59 rfl (lv_at hl 0 rfl) ?_
            refine lv_ishr hx hb dX10_writeNotice_60 ?_
            refine lv_iconst (v := (1 : Int32)) hx hb dX10_writeNotice_61 (by decide) ?_
            refine lv_iand hx hb dX10_writeNotice_62 ?_
            refine lv_iconst (v := (1 : Int32)) hx hb dX10_writeNotice_63 (by decide) ?_
            refine lv_icmp_ne (tgt := 72) hx hb dX10_writeNotice_64 (by decide) (fun c_90 => ?_) (fun c_90 => ?_)
            · have hF := hF.trans (if_neg c_90)
              have hok := Eq.mp (if_neg c_90) hok
              refine lv_iinc (v := (x2 + 1)) (lv' := [(2, .int (x2 + 1)), (0, .ref dh0), (1, .int dr)]) hx hb dX10_writeNotice_72 hl (k := 0) rfl rfl (by decide) rfl (fun ls hl => ?_)
              refine lv_goto (tgt := 47) hx hb dX10_writeNotice_75 (by decide) ?_
              exact ih (x2 + 1) dL _ _ ls (lv_sub hl [0, 1, 2] rfl) hP hD hS (trivial) hF hok
            · have hF := hF.trans (if_pos c_90)
              have hok := Eq.mp (if_pos c_90) hok
              refine lv_aload_n hx hb dX10_writeNotice_67 rfl (lv_at hl 1 rfl) ?_
              refine lv_iload_n hx hb dX10_writeNotice_68 rfl (lv_at hl 0 rfl) ?_
              have k_91 := hok.1
              have hok := hok.2
              refine w_V (own := RX10) (cs := [wMo G dh0 dh1 dh2 dh3 dh4 dh5 dh6 dh7 dL]) (rs := []) (As := [.int x2]) (rest := []) (c_X10_number l G dh0 dh1 dh2 dh3 dh4 dh5 dh6 dh7 H.size dL x2 k_91) ⟨hx, hb, hml, hown, hts⟩ g_X10_169 hdv_X10_number hK hST hS hP hD hA [0] [] rfl rfl rfl (k0 := 0) rfl rfl rfl ⟨Nat.le_of_ble_eq_true rfl, Nat.le_of_ble_eq_true rfl⟩ ⟨Nat.le_of_ble_eq_true rfl, Nat.le_of_ble_eq_true rfl⟩ rfl hl.1 rfl (Nat.le_of_ble_eq_true rfl) dX10_writeNotice_69 (fun u_93 H locs huu hP hD hS => ?_)
              have eu_93 := huu
              have hP : va_P G.1 vwCl (fl [wMo G dh0 dh1 dh2 dh3 dh4 dh5 dh6 dh7 u_93]) H := hP
              have hD : va_D A (fl [wMo G dh0 dh1 dh2 dh3 dh4 dh5 dh6 dh7 u_93]) := hD
              refine W.eq (g2 := F0 m 72 ls []) rfl ?_
              have hF : f_X10_writeNotice d dr = (lp_X10_writeNotice_47 d dr u_4 u_8 u_11 u_14 n (x2 + 1) u_93) := by subst eu_93; exact hF
              have hok : (okl_lp_X10_writeNotice_47 d dr u_4 u_8 u_11 u_14 n (x2 + 1) u_93) := by subst eu_93; exact hok
              refine lv_iinc (v := (x2 + 1)) (lv' := [(2, .int (x2 + 1)), (0, .ref dh0), (1, .int dr)]) hx hb dX10_writeNotice_72 hl (k := 0) rfl rfl (by decide) rfl (fun ls hl => ?_)
              refine lv_goto (tgt := 47) hx hb dX10_writeNotice_75 (by decide) ?_
              exact ih (x2 + 1) u_93 _ _ ls (lv_sub hl [0, 1, 2] rfl) hP hD hS (trivial) hF hok
      exact L47 9 (0 : Int32) u_14 _ _ ls (lv_sub hl [0, 1, 2] rfl) hP hD hS (trivial) hF hok
    · exact absurd c_5 (by decide)
  · have hF := hF.trans (if_pos c_2)
    have hok := Eq.mp (if_pos c_2) hok
    refine lv_iconst (v := (1 : Int32)) hx hb dX10_writeNotice_9 (by decide) ?_
    refine lv_goto (tgt := 14) hx hb dX10_writeNotice_10 (by decide) ?_
    refine lv_iconst (v := (1 : Int32)) hx hb dX10_writeNotice_14 (by decide) ?_
    refine w_V (own := RX10) (cs := [wMo G dh0 dh1 dh2 dh3 dh4 dh5 dh6 dh7 d]) (rs := []) (As := [.int (1 : Int32), .int (1 : Int32)]) (rest := []) (c_X10_isThrown l G dh0 dh1 dh2 dh3 dh4 dh5 dh6 dh7 s.heap.size d (1 : Int32) (1 : Int32) (rfl)) ⟨hx, hb, hml, hown, hts⟩ g_X10_63 hdv_X10_isThrown hK hST hS hP hD hA [0] [] rfl rfl rfl (k0 := 0) rfl rfl rfl ⟨Nat.le_of_ble_eq_true rfl, Nat.le_of_ble_eq_true rfl⟩ ⟨Nat.le_of_ble_eq_true rfl, Nat.le_of_ble_eq_true rfl⟩ rfl hl.1 rfl (Nat.le_of_ble_eq_true rfl) dX10_writeNotice_15 (fun u_95 H locs huu hP hD hS => ?_)
    have eu_95 := huu
    have hP : va_P G.1 vwCl (fl [wMo G dh0 dh1 dh2 dh3 dh4 dh5 dh6 dh7 u_95]) H := hP
    have hD : va_D A (fl [wMo G dh0 dh1 dh2 dh3 dh4 dh5 dh6 dh7 u_95]) := hD
    refine W.eq (g2 := F0 m 18 ls [.int (1 : Int32)]) rfl ?_
    have hF : f_X10_writeNotice d dr = ((0 : Int32), u_95) := by subst eu_95; exact hF
    refine lv_if_eq (tgt := 23) hx hb dX10_writeNotice_18 (by decide) (fun c_96 => ?_) (fun c_96 => ?_)
    · exact absurd c_96 (by decide)
    · refine lv_iconst (v := (0 : Int32)) hx hb dX10_writeNotice_21 (by decide) ?_
      exact w_ret (u := ((0 : Int32), u_95)) hx hb hr hlk rfl hS rfl hF.symm hP hD (Nat.le_of_ble_eq_true rfl) (Nat.le_of_ble_eq_true rfl) dX10_writeNotice_22
