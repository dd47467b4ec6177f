section RowsD
variable {p : Program} {l : Launch} {e : Env} {R : Room} {s : State} {m : MethodId} {args : Array Value} {below : List Frame} {meth : Method} {c : Code} {H : Heap} {locs : List Loc} {cells slots : Nat} {Q : State → Prop} {cc : ByteArray} {pc : Nat} {ls : Array Slot}
theorem x_retD {XC : String → State → State → Prop} {v : Option Value} {ex : Prop} {x : UInt64} {mc ms : Nat} (hx : p.tables.exec = Jvm.exec) (hb : c.code = cc) (hr : meth.sig.returnType = some .double) (hlk : meth.locks = false) (hv : v = some (.double x)) (hex : ex) (hc : cells ≤ mc) (hs : slots ≤ ms) (hdg : decode cc pc = .ok (.dreturn, 1)) :
    W p l e R s m args below meth c s.heap [] cells slots (vx_MQ below (rQ v ex) XC args s mc ms (fun _ => False)) (F0 m pc ls [.double x]) := by
  subst hv
  exact x_ret hc hs (W.dret hx hb hr (fun t ht hW => ⟨rfl, hex, ht⟩) (fun q hq => absurd hq List.not_mem_nil) hdg hlk)
theorem w_retD {S : Type} {val : S → Option Value} {ok : S → Prop} {W1 : S → va_W} {D : va_G} {A : Nat → Prop} {mc ms : Nat} {x : UInt64} (u : S) (hx : p.tables.exec = Jvm.exec) (hb : c.code = cc) (hr : meth.sig.returnType = some .double) (hlk : meth.locks = false) (hS : va_S A s.heap H locs) (hv : val u = some (.double x)) (hok : ok u) (hP : va_P D vwCl (W1 u) H) (hD : va_D A (W1 u)) (hc : cells ≤ mc) (hs : slots ≤ ms) (hdg : decode cc pc = .ok (.dreturn, 1)) :
    W p l e R s m args below meth c H locs cells slots (MQ below (wQ val ok W1 D A) args s mc ms A) (F0 m pc ls [.double x]) := by
  refine W.widen hc hs ?_
  exact W.dret hx hb hr (fun t ht hW => ⟨⟨u, by rw [hv], hok, by rw [ht]; exact hP, hD⟩, hS.F ht⟩) hS.2.2 hdg hlk
end RowsD
theorem dX9_entryShare_0 : decode cX9_entryShare 0 = .ok (.aload_n 0, 1) := by decide +kernel
theorem dX9_entryShare_1 : decode cX9_entryShare 1 = .ok (.getfield 10, 3) := by decide +kernel
theorem dX9_entryShare_4 : decode cX9_entryShare 4 = .ok (.getfield 243, 3) := by decide +kernel
theorem dX9_entryShare_7 : decode cX9_entryShare 7 = .ok (.getfield 268, 3) := by decide +kernel
theorem dX9_entryShare_10 : decode cX9_entryShare 10 = .ok (.istore_n 1, 1) := by decide +kernel
theorem dX9_entryShare_11 : decode cX9_entryShare 11 = .ok (.iload_n 1, 1) := by decide +kernel
theorem dX9_entryShare_12 : decode cX9_entryShare 12 = .ok (.ifCond .ne 14, 3) := by decide +kernel
theorem dX9_entryShare_26 : decode cX9_entryShare 26 = .ok (.aload_n 0, 1) := by decide +kernel
theorem dX9_entryShare_27 : decode cX9_entryShare 27 = .ok (.getfield 10, 3) := by decide +kernel
theorem dX9_entryShare_30 : decode cX9_entryShare 30 = .ok (.getfield 243, 3) := by decide +kernel
theorem dX9_entryShare_33 : decode cX9_entryShare 33 = .ok (.iconst 0, 1) := by decide +kernel
theorem dX9_entryShare_34 : decode cX9_entryShare 34 = .ok (.invokevirtual 265, 3) := by decide +kernel
theorem dX9_entryShare_37 : decode cX9_entryShare 37 = .ok (.i2d, 1) := by decide +kernel
theorem dX9_entryShare_38 : decode cX9_entryShare 38 = .ok (.iload_n 1, 1) := by decide +kernel
theorem dX9_entryShare_39 : decode cX9_entryShare 39 = .ok (.i2d, 1) := by decide +kernel
theorem dX9_entryShare_40 : decode cX9_entryShare 40 = .ok (.ddiv, 1) := by decide +kernel
theorem dX9_entryShare_41 : decode cX9_entryShare 41 = .ok (.dreturn, 1) := by decide +kernel
theorem dX9_entryShare_15 : decode cX9_entryShare 15 = .ok (.new 271, 3) := by decide +kernel
theorem dX9_entryShare_18 : decode cX9_entryShare 18 = .ok (.dup, 1) := by decide +kernel
theorem dX9_entryShare_19 : decode cX9_entryShare 19 = .ok (.ldc_w 273, 3) := by decide +kernel
theorem dX9_entryShare_22 : decode cX9_entryShare 22 = .ok (.invokespecial 275, 3) := by decide +kernel
theorem dX9_entryShare_25 : decode cX9_entryShare 25 = .ok (.athrow, 1) := by decide +kernel
theorem at_X9_275 : ∀ w ∈ vx_atS RX9 275 "java/lang/ArithmeticException" ["java/lang/RuntimeException", "java/lang/Exception"], w ∈ lw_tbl ∧ (goodWord w || isCastW w) = true := by decide +kernel
theorem ot_X9_275_271 : ∀ w ∈ Cond.classLink RX9 271 "java/lang/ArithmeticException" :: Cond.initialized "java/lang/ArithmeticException" :: vx_atS RX9 275 "java/lang/ArithmeticException" ["java/lang/RuntimeException", "java/lang/Exception"], vx_ot w = true := by decide +kernel
theorem u_1193 : Cond.classLink RX9 271 "java/lang/ArithmeticException" ∈ UW := uw 1193 (by decide +kernel) rfl
theorem u_93 : Cond.initialized "java/lang/ArithmeticException" ∈ UW := uw 93 (by decide +kernel) rfl
def f_X9_entryShare (q : McV) (v : StV) : String × UInt64 := (if v.2.2.2.2.2.1 = (0 : Int32) then ("java/lang/ArithmeticException", 0) else ("", (FP.ddiv (FP.i2d (f_X0_countResults v.2.2.2.2.2 (0 : Int32))) (FP.i2d v.2.2.2.2.2.1))))
def ok_X9_entryShare (q : McV) (v : StV) : Prop := (if v.2.2.2.2.2.1 = (0 : Int32) then True else (vf_n64 (FP.ddiv (FP.i2d (f_X0_countResults v.2.2.2.2.2 (0 : Int32))) (FP.i2d v.2.2.2.2.2.1)) ∧ True))
set_option maxHeartbeats 4000000 in
set_option maxRecDepth 100000 in
theorem c_X9_entryShare (l : Launch) (hlf : l.stackTraces = false) (G : GG) (qh0 : Nat) (q_snapshot : Nat) (q_history : Nat) (q_program : Nat) (q_notice : Nat) (va : Nat → Nat) (q : McV) (v : StV) (hok : ok_X9_entryShare q v) : xrMet l yX9_entryShare cX9_entryShare 2 (some .double) 8 1 6 G (fl [[(qh0, .inr (11, [.ref (va 0), .ref q_snapshot, .int q.1, .ref q_history, .ref q_program, .ref q_notice, .int q.2.1, .int q.2.2]))], [((va 0), .inr (10, [.int v.1, .int v.2.1, .ref (va 1), .ref (va 6), .ref (va 10), .ref (va 13)]))], wDo G (va 1) (va 2) (va 3) (va 4) (va 5) v.2.2.1, wEx G (va 6) (va 7) (va 8) (va 9) v.2.2.2.1, wPe G (va 10) (va 11) (va 12) v.2.2.2.2.1, wAu G (va 13) (va 14) (va 15) (va 16) (va 17) (va 18) (va 19) v.2.2.2.2.2]) [.ref qh0] (some (.double ((f_X9_entryShare q v).2))) ((f_X9_entryShare q v).1 = "" ∧ True) (fun E => E = (f_X9_entryShare q v).1 ∧ E ≠ "") := by
  refine xr_start (by decide +kernel) (Nat.le_of_ble_eq_true rfl) ?_
  intro p e s m below meth c hx hb hr hml hts hown hlk hxt hP hK hST ls hl
  have hS : va_S (fun _ => False) s.heap s.heap [] := va_S.rf
  have hown : s.vm.findClass RX9 = some m.cls := hown
  have hl : lv_has ls 2 [(0, .ref qh0)] := hl
  have hF : f_X9_entryShare q v = (if v.2.2.2.2.2.1 = (0 : Int32) then ("java/lang/ArithmeticException", 0) else ("", (FP.ddiv (FP.i2d (f_X0_countResults v.2.2.2.2.2 (0 : Int32))) (FP.i2d v.2.2.2.2.2.1)))) := rfl
  have hok : (if v.2.2.2.2.2.1 = (0 : Int32) then True else (vf_n64 (FP.ddiv (FP.i2d (f_X0_countResults v.2.2.2.2.2 (0 : Int32))) (FP.i2d v.2.2.2.2.2.1)) ∧ True)) := hok
  refine lv_aload_n hx hb dX9_entryShare_0 rfl (lv_at hl 0 rfl) ?_
  refine va_get (D := G.1) (ci := 11) (v := .ref (va 0)) (C := RX9) (T := TX9) (N := 8) hx hb hts uws_X9 hown hK hP 0 rfl rfl 0 (by decide) (hts _ u_311) (fun _ h9 => h9) rfl dX9_entryShare_1 ?_
  refine va_get (D := G.1) (ci := 10) (v := .ref (va 13)) (C := RX8) (T := TX8) (N := 6) hx hb hts uws_X8 hown hK hP 1 rfl rfl 5 (by decide) (hts _ u_216) (fun _ h9 => h9) rfl dX9_entryShare_4 ?_
  refine va_get (D := G.1) (ci := 4) (v := .int v.2.2.2.2.2.1) (C := RX0) (T := TX0) (N := 7) hx hb hts uws_X0 hown hK hP 14 rfl rfl 0 (by decide) (hts _ u_184) (fun _ h9 => h9) rfl dX9_entryShare_7 ?_
  refine lv_istore_n (lv' := [(1, .int v.2.2.2.2.2.1), (0, .ref qh0)]) hx hb dX9_entryShare_10 rfl hl (by decide) rfl (fun ls hl => ?_)
  refine lv_iload_n hx hb dX9_entryShare_11 rfl (lv_at hl 0 rfl) ?_
  refine lv_if_ne (tgt := 26) hx hb dX9_entryShare_12 (by decide) (fun c_1 => ?_) (fun c_1 => ?_)
  · have hF := hF.trans (if_neg c_1)
    have hok := Eq.mp (if_neg c_1) hok
    refine lv_aload_n hx hb dX9_entryShare_26 rfl (lv_at hl 1 rfl) ?_
    refine va_get (D := G.1) (ci := 11) (v := .ref (va 0)) (C := RX9) (T := TX9) (N := 8) hx hb hts uws_X9 hown hK hP 0 rfl rfl 0 (by decide) (hts _ u_311) (fun _ h9 => h9) rfl dX9_entryShare_27 ?_
    refine va_get (D := G.1) (ci := 10) (v := .ref (va 13)) (C := RX8) (T := TX8) (N := 6) hx hb hts uws_X8 hown hK hP 1 rfl rfl 5 (by decide) (hts _ u_216) (fun _ h9 => h9) rfl dX9_entryShare_30 ?_
    refine lv_iconst (v := (0 : Int32)) hx hb dX9_entryShare_33 (by decide) ?_
    refine r_V (own := RX9) (v := (some (.int (f_X0_countResults v.2.2.2.2.2 (0 : Int32))))) (st1 := [.int (f_X0_countResults v.2.2.2.2.2 (0 : Int32))]) (As := [.int (0 : Int32)]) (rest := []) (c_X0_countResults l G (va 13) (va 14) (va 15) (va 16) (va 17) (va 18) (va 19) v.2.2.2.2.2 (0 : Int32)) ⟨hx, hb, hml, hown, hts⟩ g_X9_265 hdv_X0_countResults hK hST hS hP [14, 15, 16, 17, 18, 19, 20] rfl (k0 := 0) rfl rfl rfl ⟨Nat.le_of_ble_eq_true rfl, Nat.le_of_ble_eq_true rfl⟩ ⟨Nat.le_of_ble_eq_true rfl, Nat.le_of_ble_eq_true rfl⟩ rfl hl.1 rfl (Nat.le_of_ble_eq_true rfl) dX9_entryShare_34 rfl (fun b_2 => ?_)
    refine lv_i2d hx hb dX9_entryShare_37 ?_
    refine lv_iload_n hx hb dX9_entryShare_38 rfl (lv_at hl 0 rfl) ?_
    refine lv_i2d hx hb dX9_entryShare_39 ?_
    have h_3 := hok.1
    have hok := hok.2
    refine lv_ddiv hx hb dX9_entryShare_40 h_3 ?_
    exact x_retD hx hb hr hlk (by rw [hF]) ⟨congrArg Prod.fst hF, trivial⟩ (Nat.le_of_ble_eq_true rfl) (Nat.le_of_ble_eq_true rfl) dX9_entryShare_41
  · have hF := hF.trans (if_pos c_1)
    have hok := Eq.mp (if_pos c_1) hok
    exact xr_throwSW (A := (fun _ => False)) (own := RX9) (cls := "java/lang/ArithmeticException") (text := "no attempts so far") (j := 26) hlf ⟨hx, hb, hml, hown, hts⟩ hST hlk hxt (by decide +kernel) u_1193 u_93 (by decide +kernel) at_X9_275 ot_X9_275_271 hl.1 dX9_entryShare_15 dX9_entryShare_18 dX9_entryShare_19 dX9_entryShare_22 dX9_entryShare_25 ⟨Nat.le_of_ble_eq_true rfl, Nat.le_of_ble_eq_true rfl⟩ ⟨Nat.le_of_ble_eq_true rfl, Nat.le_of_ble_eq_true rfl⟩ ⟨(congrArg Prod.fst hF).symm, by decide⟩ (Nat.le_of_ble_eq_true rfl) (Nat.le_of_ble_eq_true rfl)
theorem dX10_entryShare_0 : decode cX10_entryShare 0 = .ok (.aload_n 0, 1) := by decide +kernel
theorem dX10_entryShare_1 : decode cX10_entryShare 1 = .ok (.aload_n 0, 1) := by decide +kernel
theorem dX10_entryShare_2 : decode cX10_entryShare 2 = .ok (.invokevirtual 163, 3) := by decide +kernel
theorem dX10_entryShare_5 : decode cX10_entryShare 5 = .ok (.ifCond .ne 7, 3) := by decide +kernel
theorem dX10_entryShare_12 : decode cX10_entryShare 12 = .ok (.iconst 0, 1) := by decide +kernel
theorem dX10_entryShare_13 : decode cX10_entryShare 13 = .ok (.iconst 1, 1) := by decide +kernel
theorem dX10_entryShare_14 : decode cX10_entryShare 14 = .ok (.invokevirtual 63, 3) := by decide +kernel
theorem dX10_entryShare_17 : decode cX10_entryShare 17 = .ok (.ifCond .eq 7, 3) := by decide +kernel
theorem dX10_entryShare_24 : decode cX10_entryShare 24 = .ok (.aload_n 0, 1) := by decide +kernel
theorem dX10_entryShare_25 : decode cX10_entryShare 25 = .ok (.getfield 9, 3) := by decide +kernel
theorem dX10_entryShare_28 : decode cX10_entryShare 28 = .ok (.bipush 6, 2) := by decide +kernel
theorem dX10_entryShare_30 : decode cX10_entryShare 30 = .ok (.iaload, 1) := by decide +kernel
theorem dX10_entryShare_31 : decode cX10_entryShare 31 = .ok (.i2d, 1) := by decide +kernel
theorem dX10_entryShare_32 : decode cX10_entryShare 32 = .ok (.aload_n 0, 1) := by decide +kernel
theorem dX10_entryShare_33 : decode cX10_entryShare 33 = .ok (.invokevirtual 163, 3) := by decide +kernel
theorem dX10_entryShare_36 : decode cX10_entryShare 36 = .ok (.i2d, 1) := by decide +kernel
theorem dX10_entryShare_37 : decode cX10_entryShare 37 = .ok (.ddiv, 1) := by decide +kernel
theorem dX10_entryShare_38 : decode cX10_entryShare 38 = .ok (.dreturn, 1) := by decide +kernel
theorem dX10_entryShare_8 : decode cX10_entryShare 8 = .ok (.iconst 1, 1) := by decide +kernel
theorem dX10_entryShare_9 : decode cX10_entryShare 9 = .ok (.goto 4, 3) := by decide +kernel
theorem dX10_entryShare_20 : decode cX10_entryShare 20 = .ok (.dconst 0, 1) := by decide +kernel
theorem dX10_entryShare_21 : decode cX10_entryShare 21 = .ok (.goto 17, 3) := by decide +kernel
def f_X10_entryShare (d : MoV) : UInt64 × MoV := (if (f_X10_attempts d) = (0 : Int32) then (let u_11 : MoV := (f_X10_isThrown d (1 : Int32) (1 : Int32)); (FP.dconst0, u_11)) else (let u_5 : MoV := (f_X10_isThrown d (0 : Int32) (1 : Int32)); ((FP.ddiv (FP.i2d (u_5.1 (6 : Int32).toNatClampNeg)) (FP.i2d (f_X10_attempts u_5))), u_5)))
def ok_X10_entryShare (d : MoV) : Prop := (ok_X10_attempts d ∧ (if (f_X10_attempts d) = (0 : Int32) then True else (let u_5 : MoV := (f_X10_isThrown d (0 : Int32) (1 : Int32)); (ok_X10_attempts u_5 ∧ (vf_n64 (FP.ddiv (FP.i2d (u_5.1 (6 : Int32).toNatClampNeg)) (FP.i2d (f_X10_attempts u_5))) ∧ True)))))
set_option maxHeartbeats 4000000 in
set_option maxRecDepth 100000 in
theorem c_X10_entryShare (l : Launch) (G : GG) (dh0 : Nat) (dh1 : Nat) (dh2 : Nat) (dh3 : Nat) (dh4 : Nat) (dh5 : Nat) (dh6 : Nat) (dh7 : Nat) (sz : Nat) (d : MoV) (hok : ok_X10_entryShare d) : wMet l yX10_entryShare cX10_entryShare 1 (some .double) 2 0 0 G (fl [wMo G dh0 dh1 dh2 dh3 dh4 dh5 dh6 dh7 d]) [.ref dh0] sz (fun u : UInt64 × MoV => some (.double u.1)) (fun u : UInt64 × MoV => u = f_X10_entryShare d) (fun u : UInt64 × MoV => fl [wMo G dh0 dh1 dh2 dh3 dh4 dh5 dh6 dh7 u.2]) := by
  refine w_start (by decide +kernel) (Nat.le_of_ble_eq_true rfl) ?_
  intro p e s m below meth c A hx hb hr hml hts hown hlk hin hP hD hA hK hST ls hl
  have hS : va_S A s.heap s.heap [] := va_S.rf
  have hown : s.vm.findClass RX10 = some m.cls := hown
  have hl : lv_has ls 1 [(0, .ref dh0)] := hl
  have hF : f_X10_entryShare d = (if (f_X10_attempts d) = (0 : Int32) then (let u_11 : MoV := (f_X10_isThrown d (1 : Int32) (1 : Int32)); (FP.dconst0, u_11)) else (let u_5 : MoV := (f_X10_isThrown d (0 : Int32) (1 : Int32)); ((FP.ddiv (FP.i2d (u_5.1 (6 : Int32).toNatClampNeg)) (FP.i2d (f_X10_attempts u_5))), u_5))) := rfl
  have hok : (ok_X10_attempts d ∧ (if (f_X10_attempts d) = (0 : Int32) then True else (let u_5 : MoV := (f_X10_isThrown d (0 : Int32) (1 : Int32)); (ok_X10_attempts u_5 ∧ (vf_n64 (FP.ddiv (FP.i2d (u_5.1 (6 : Int32).toNatClampNeg)) (FP.i2d (f_X10_attempts u_5))) ∧ True))))) := hok
  refine lv_aload_n hx hb dX10_entryShare_0 rfl (lv_at hl 0 rfl) ?_
  refine lv_aload_n hx hb dX10_entryShare_1 rfl (lv_at hl 0 rfl) ?_
  have k_1 := hok.1
  have hok := hok.2
  refine r_V (own := RX10) (v := (some (.int (f_X10_attempts d)))) (st1 := [.int (f_X10_attempts d), .ref dh0]) (As := []) (rest := [.ref dh0]) (c_X10_attempts l G dh0 dh1 dh2 dh3 dh4 dh5 dh6 dh7 d k_1) ⟨hx, hb, hml, hown, hts⟩ g_X10_163 hdv_X10_attempts hK hST hS hP [0, 1, 2, 3, 4, 5, 6, 7] rfl (k0 := 0) rfl rfl rfl ⟨Nat.le_of_ble_eq_true rfl, Nat.le_of_ble_eq_true rfl⟩ ⟨Nat.le_of_ble_eq_true rfl, Nat.le_of_ble_eq_true rfl⟩ rfl hl.1 rfl (Nat.le_of_ble_eq_true rfl) dX10_entryShare_2 rfl (fun b_2 => ?_)
  refine lv_if_ne (tgt := 12) hx hb dX10_entryShare_5 (by decide) (fun c_3 => ?_) (fun c_3 => ?_)
  · have hF := hF.trans (if_neg c_3)
    have hok := Eq.mp (if_neg c_3) hok
    refine lv_iconst (v := (0 : Int32)) hx hb dX10_entryShare_12 (by decide) ?_
    refine lv_iconst (v := (1 : Int32)) hx hb dX10_entryShare_13 (by decide) ?_
    refine w_V (own := RX10) (cs := [wMo G dh0 dh1 dh2 dh3 dh4 dh5 dh6 dh7 d]) (rs := []) (As := [.int (0 : Int32), .int (1 : Int32)]) (rest := []) (c_X10_isThrown l G dh0 dh1 dh2 dh3 dh4 dh5 dh6 dh7 s.heap.size d (0 : Int32) (1 : Int32) (rfl)) ⟨hx, hb, hml, hown, hts⟩ g_X10_63 hdv_X10_isThrown hK hST hS hP hD hA [0] [] rfl rfl rfl (k0 := 0) rfl rfl rfl ⟨Nat.le_of_ble_eq_true rfl, Nat.le_of_ble_eq_true rfl⟩ ⟨Nat.le_of_ble_eq_true rfl, Nat.le_of_ble_eq_true rfl⟩ rfl hl.1 rfl (Nat.le_of_ble_eq_true rfl) dX10_entryShare_14 (fun u_5 H locs huu hP hD hS => ?_)
    have eu_5 := huu
    have hP : va_P G.1 vwCl (fl [wMo G dh0 dh1 dh2 dh3 dh4 dh5 dh6 dh7 u_5]) H := hP
    have hD : va_D A (fl [wMo G dh0 dh1 dh2 dh3 dh4 dh5 dh6 dh7 u_5]) := hD
    refine W.eq (g2 := F0 m 17 ls [.int (0 : Int32)]) rfl ?_
    have hF : f_X10_entryShare d = ((FP.ddiv (FP.i2d (u_5.1 (6 : Int32).toNatClampNeg)) (FP.i2d (f_X10_attempts u_5))), u_5) := by subst eu_5; exact hF
    have hok : (ok_X10_attempts u_5 ∧ (vf_n64 (FP.ddiv (FP.i2d (u_5.1 (6 : Int32).toNatClampNeg)) (FP.i2d (f_X10_attempts u_5))) ∧ True)) := by subst eu_5; exact hok
    refine lv_if_eq (tgt := 24) hx hb dX10_entryShare_17 (by decide) (fun c_6 => ?_) (fun c_6 => ?_)
    · refine lv_aload_n hx hb dX10_entryShare_24 rfl (lv_at hl 0 rfl) ?_
      refine va_get (D := G.1) (ci := 12) (v := .ref dh1) (C := RX10) (T := TX10) (N := 17) hx hb hts uws_X10 hown hK hP 0 rfl rfl 0 (by decide) (hts _ u_1680) (fun _ h9 => h9) rfl dX10_entryShare_25 ?_
      refine lv_bipush (v := (6 : Int32)) hx hb dX10_entryShare_28 (by decide) ?_
      refine va_iald hx hb hK hP 1 0 rfl rfl (vp_in_nI (n := 6) (by decide) (by decide)) dX10_entryShare_30 ?_
      refine lv_i2d hx hb dX10_entryShare_31 ?_
      refine lv_aload_n hx hb dX10_entryShare_32 rfl (lv_at hl 0 rfl) ?_
      have k_7 := hok.1
      have hok := hok.2
      refine r_V (own := RX10) (v := (some (.int (f_X10_attempts u_5)))) (st1 := [.int (f_X10_attempts u_5), .double (FP.i2d (u_5.1 (6 : Int32).toNatClampNeg))]) (As := []) (rest := [.double (FP.i2d (u_5.1 (6 : Int32).toNatClampNeg))]) (c_X10_attempts l G dh0 dh1 dh2 dh3 dh4 dh5 dh6 dh7 u_5 k_7) ⟨hx, hb, hml, hown, hts⟩ g_X10_163 hdv_X10_attempts hK hST hS hP [0, 1, 2, 3, 4, 5, 6, 7] rfl (k0 := 0) rfl rfl rfl ⟨Nat.le_of_ble_eq_true rfl, Nat.le_of_ble_eq_true rfl⟩ ⟨Nat.le_of_ble_eq_true rfl, Nat.le_of_ble_eq_true rfl⟩ rfl hl.1 rfl (Nat.le_of_ble_eq_true rfl) dX10_entryShare_33 rfl (fun b_8 => ?_)
      refine lv_i2d hx hb dX10_entryShare_36 ?_
      have h_9 := hok.1
      have hok := hok.2
      refine lv_ddiv hx hb dX10_entryShare_37 h_9 ?_
      exact w_retD (u := ((FP.ddiv (FP.i2d (u_5.1 (6 : Int32).toNatClampNeg)) (FP.i2d (f_X10_attempts u_5))), u_5)) hx hb hr hlk hS rfl hF.symm hP hD (Nat.le_of_ble_eq_true rfl) (Nat.le_of_ble_eq_true rfl) dX10_entryShare_38
    · exact absurd c_6 (by decide)
  · have hF := hF.trans (if_pos c_3)
    have hok := Eq.mp (if_pos c_3) hok
    refine lv_iconst (v := (1 : Int32)) hx hb dX10_entryShare_8 (by decide) ?_
    refine lv_goto (tgt := 13) hx hb dX10_entryShare_9 (by decide) ?_
    refine lv_iconst (v := (1 : Int32)) hx hb dX10_entryShare_13 (by decide) ?_
    refine w_V (own := RX10) (cs := [wMo G dh0 dh1 dh2 dh3 dh4 dh5 dh6 dh7 d]) (rs := []) (As := [.int (1 : Int32), .int (1 : Int32)]) (rest := []) (c_X10_isThrown l G dh0 dh1 dh2 dh3 dh4 dh5 dh6 dh7 s.heap.size d (1 : Int32) (1 : Int32) (rfl)) ⟨hx, hb, hml, hown, hts⟩ g_X10_63 hdv_X10_isThrown hK hST hS hP hD hA [0] [] rfl rfl rfl (k0 := 0) rfl rfl rfl ⟨Nat.le_of_ble_eq_true rfl, Nat.le_of_ble_eq_true rfl⟩ ⟨Nat.le_of_ble_eq_true rfl, Nat.le_of_ble_eq_true rfl⟩ rfl hl.1 rfl (Nat.le_of_ble_eq_true rfl) dX10_entryShare_14 (fun u_11 H locs huu hP hD hS => ?_)
    have eu_11 := huu
    have hP : va_P G.1 vwCl (fl [wMo G dh0 dh1 dh2 dh3 dh4 dh5 dh6 dh7 u_11]) H := hP
    have hD : va_D A (fl [wMo G dh0 dh1 dh2 dh3 dh4 dh5 dh6 dh7 u_11]) := hD
    refine W.eq (g2 := F0 m 17 ls [.int (1 : Int32)]) rfl ?_
    have hF : f_X10_entryShare d = (FP.dconst0, u_11) := by subst eu_11; exact hF
    refine lv_if_eq (tgt := 24) hx hb dX10_entryShare_17 (by decide) (fun c_12 => ?_) (fun c_12 => ?_)
    · exact absurd c_12 (by decide)
    · refine lv_dconst0 hx hb dX10_entryShare_20 ?_
      refine lv_goto (tgt := 38) hx hb dX10_entryShare_21 (by decide) ?_
      exact w_retD (u := (FP.dconst0, u_11)) hx hb hr hlk hS rfl hF.symm hP hD (Nat.le_of_ble_eq_true rfl) (Nat.le_of_ble_eq_true rfl) dX10_entryShare_38
