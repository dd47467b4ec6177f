section RowsD
variable {p : Program} {l : Launch} {e : Env} {R : Room} {s : State} {m : MethodId} {args : Array Value} {below : List Frame} {meth : Method} {c : Code} {H : Heap} {locs : List Loc} {cells slots : Nat} {Q : State → Prop} {cc : ByteArray} {pc : Nat} {ls : Array Slot}
theorem x_retD {XC : String → State → State → Prop} {v : Option Value} {ex : Prop} {x : UInt64} {mc ms : Nat} (hx : p.tables.exec = Jvm.exec) (hb : c.code = cc) (hr : meth.sig.returnType = some .double) (hlk : meth.locks = false) (hv : v = some (.double x)) (hex : ex) (hc : cells ≤ mc) (hs : slots ≤ ms) (hdg : decode cc pc = .ok (.dreturn, 1)) :
    W p l e R s m args below meth c s.heap [] cells slots (vx_MQ below (rQ v ex) XC args s mc ms (fun _ => False)) (F0 m pc ls [.double x]) := by
  subst hv
  exact x_ret hc hs (W.dret hx hb hr (fun t ht hW => ⟨rfl, hex, ht⟩) (fun q hq => absurd hq List.not_mem_nil) hdg hlk)
theorem w_retD {S : Type} {val : S → Option Value} {ok : S → Prop} {W1 : S → va_W} {D : va_G} {A : Nat → Prop} {mc ms : Nat} {x : UInt64} (u : S) (hx : p.tables.exec = Jvm.exec) (hb : c.code = cc) (hr : meth.sig.returnType = some .double) (hlk : meth.locks = false) (hS : va_S A s.heap H locs) (hv : val u = some (.double x)) (hok : ok u) (hP : va_P D vwCl (W1 u) H) (hD : va_D A (W1 u)) (hc : cells ≤ mc) (hs : slots ≤ ms) (hdg : decode cc pc = .ok (.dreturn, 1)) :
    W p l e R s m args below meth c H locs cells slots (MQ below (wQ val ok W1 D A) args s mc ms A) (F0 m pc ls [.double x]) := by
  refine W.widen hc hs ?_
  exact W.dret hx hb hr (fun t ht hW => ⟨⟨u, by rw [hv], hok, by rw [ht]; exact hP, hD⟩, hS.F ht⟩) hS.2.2 hdg hlk
end RowsD
theorem dX9_entryShare_0 : decode cX9_entryShare 0 = .ok (.aload_n 0, 1) := by decide +kernel
theorem dX9_entryShare_1 : decode cX9_entryShare 1 = .ok (.getfield 10, 3) := by decide +kernel
theorem dX9_entryShare_4 : decode cX9_entryShare 4 = .ok (.getfield 243, 3) := by decide +kernel
theorem dX9_entryShare_7 : decode cX9_entryShare 7 = .ok (.getfield 268, 3) := by decide +kernel
theorem dX9_entryShare_10 : decode cX9_entryShare 10 = .ok (.istore_n 1, 1) := by decide +kernel
theorem dX9_entryShare_11 : decode cX9_entryShare 11 = .ok (.iload_n 1, 1) := by decide +kernel
theorem dX9_entryShare_12 : decode cX9_entryShare 12 = .ok (.ifCond .ne 14, 3) := by decide +kernel
theorem dX9_entryShare_26 : decode cX9_entryShare 26 = .ok (.aload_n 0, 1) := by decide +kernel
theorem dX9_entryShare_27 : decode cX9_entryShare 27 = .ok (.getfield 10, 3) := by decide +kernel
theorem dX9_entryShare_30 : decode cX9_entryShare 30 = .ok (.getfield 243, 3) := by decide +kernel
theorem dX9_entryShare_33 : decode cX9_entryShare 33 = .ok (.iconst 0, 1) := by decide +kernel
theorem dX9_entryShare_34 : decode cX9_entryShare 34 = .ok (.invokevirtual 265, 3) := by decide +kernel
theorem dX9_entryShare_37 : decode cX9_entryShare 37 = .ok (.i2d, 1) := by decide +kernel
theorem dX9_entryShare_38 : decode cX9_entryShare 38 = .ok (.iload_n 1, 1) := by decide +kernel
theorem dX9_entryShare_39 : decode cX9_entryShare 39 = .ok (.i2d, 1) := by decide +kernel
theorem dX9_entryShare_40 : decode cX9_entryShare 40 = .ok (.ddiv, 1) := by decide +kernel
theorem dX9_entryShare_41 : decode cX9_entryShare 41 = .ok (.dreturn, 1) := by decide +kernel
theorem dX9_entryShare_15 : decode cX9_entryShare 15 = .ok (.new 271, 3) := by decide +kernel
theorem dX9_entryShare_18 : decode cX9_entryShare 18 = .ok (.dup, 1) := by decide +kernel
theorem dX9_entryShare_19 : decode cX9_entryShare 19 = .ok (.ldc_w 273, 3) := by decide +kernel
theorem dX9_entryShare_22 : decode cX9_entryShare 22 = .ok (.invokespecial 275, 3) := by decide +kernel
theorem dX9_entryShare_25 : decode cX9_entryShare 25 = .ok (.athrow, 1) := by decide +kernel
theorem at_X9_275 : ∀ w ∈ vx_atS RX9 275 "java/lang/ArithmeticException" ["java/lang/RuntimeException", "java/lang/Exception"], w ∈ lw_tbl ∧ (goodWord w || isCastW w) = true := by decide +kernel
theorem ot_X9_275_271 : ∀ w ∈ Cond.classLink RX9 271 "java/lang/ArithmeticException" :: Cond.initialized "java/lang/ArithmeticException" :: vx_atS RX9 275 "java/lang/ArithmeticException" ["java/lang/RuntimeException", "java/lang/Exception"], vx_ot w = true := by decide +kernel
theorem u_1570 : Cond.classLink RX9 271 "java/lang/ArithmeticException" ∈ UW := uw 1570 (by decide +kernel) rfl
theorem u_48 : Cond.initialized "java/lang/ArithmeticException" ∈ UW := uw 48 (by decide +kernel) rfl
def f_X9_entryShare (q : McV) (v : StV) : String × UInt64 := (if v.2.2.2.2.2.1 = (0 : Int32) then ("java/lang/ArithmeticException", 0) else ("", (FP.ddiv (FP.i2d (f_X0_countResults v.2.2.2.2.2 (0 : Int32))) (FP.i2d v.2.2.2.2.2.1))))
def ok_X9_entryShare (q : McV) (v : StV) : Prop := (if v.2.2.2.2.2.1 = (0 : Int32) then True else (vf_n64 (FP.ddiv (FP.i2d (f_X0_countResults v.2.2.2.2.2 (0 : Int32))) (FP.i2d v.2.2.2.2.2.1)) ∧ True))
set_option maxHeartbeats 4000000 in
set_option maxRecDepth 100000 in
theorem c_X9_entryShare (l : Launch) (hlf : l.stackTraces = false) (G : GG) (qh0 : Nat) (q_snapshot : Nat) (q_history : Nat) (q_program : Nat) (q_notice : Nat) (va : Nat → Nat) (q : McV) (v : StV) (hok : ok_X9_entryShare q v) : xrMet l yX9_entryShare cX9_entryShare 2 (some .double) 8 1 6 G (fl [[(qh0, .inr (11, [.ref (va 0), .ref q_snapshot, .int q.1, .ref q_history, .ref q_program, .ref q_notice, .int q.2.1, .int q.2.2]))], [((va 0), .inr (10, [.int v.1, .int v.2.1, .ref (va 1), .ref (va 6), .ref (va 10), .ref (va 13)]))], wDo G (va 1) (va 2) (va 3) (va 4) (va 5) v.2.2.1, wEx G (va 6) (va 7) (va 8) (va 9) v.2.2.2.1, wPe G (va 10) (va 11) (va 12) v.2.2.2.2.1, wAu G (va 13) (va 14) (va 15) (va 16) (va 17) (va 18) (va 19) v.2.2.2.2.2]) [.ref qh0] (some (.double ((f_X9_entryShare q v).2))) ((f_X9_entryShare q v).1 = "" ∧ True) (fun E => E = (f_X9_entryShare q v).1 ∧ E ≠ "") := by
  refine xr_start (by decide +kernel) (Nat.le_of_ble_eq_true rfl) ?_
  intro p e s m below meth c hx hb hr hml hts hown hlk hxt hP hK hST ls hl
  have hS : va_S (fun _ => False) s.heap s.heap [] := va_S.rf
  have hown : s.vm.findClass RX9 = some m.cls := hown
  have hl : lv_has ls 2 [(0, .ref qh0)] := hl
  have hF : f_X9_entryShare q v = (if v.2.2.2.2.2.1 = (0 : Int32) then ("java/lang/ArithmeticException", 0) else ("", (FP.ddiv (FP.i2d (f_X0_countResults v.2.2.2.2.2 (0 : Int32))) (FP.i2d v.2.2.2.2.2.1)))) := rfl
  have hok : (if v.2.2.2.2.2.1 = (0 : Int32) then True else (vf_n64 (FP.ddiv (FP.i2d (f_X0_countResults v.2.2.2.2.2 (0 : Int32))) (FP.i2d v.2.2.2.2.2.1)) ∧ True)) := hok
  refine lv_aload_n hx hb dX9_entryShare_0 rfl (lv_at hl 0 rfl) ?_
  refine va_get (D := G.1) (ci := 11) (v := .ref (va 0)) (C := RX9) (T := TX9) (N := 8) hx hb hts uws_X9 hown hK hP 0 rfl rfl 0 (by decide) (hts _ u_1097) (fun _ h9 => h9) rfl dX9_entryShare_1 ?_
  refine va_get (D := G.1) (ci := 10) (v := .ref (va 13)) (C := RX8) (T := TX8) (N := 6) hx hb hts uws_X8 hown hK hP 1 rfl rfl 5 (by decide) (hts _ u_1034) (fun _ h9 => h9) rfl dX9_entryShare_4 ?_
  refine va_get (D := G.1) (ci := 4) (v := .int v.2.2.2.2.2.1) (C := RX0) (T := TX0) (N := 7) hx hb hts uws_X0 hown hK hP 14 rfl rfl 0 (by decide) (hts _ u_1002) (fun _ h9 => h9) rfl dX9_entryShare_7 ?_
  refine lv_istore_n (lv' := [(1, .int v.2.2.2.2.2.1), (0, .ref qh0)]) hx hb dX9_entryShare_10 rfl hl (by decide) rfl (fun ls hl => ?_)
  refine lv_iload_n hx hb dX9_entryShare_11 rfl (lv_at hl 0 rfl) ?_
  refine lv_if_ne (tgt := 26) hx hb dX9_entryShare_12 (by decide) (fun c_1 => ?_) (fun c_1 => ?_)
  · have hF := hF.trans (if_neg c_1)
    have hok := Eq.mp (if_neg c_1) hok
    refine lv_aload_n hx hb dX9_entryShare_26 rfl (lv_at hl 1 rfl) ?_
    refine va_get (D := G.1) (ci := 11) (v := .ref (va 0)) (C := RX9) (T := TX9) (N := 8) hx hb hts uws_X9 hown hK hP 0 rfl rfl 0 (by decide) (hts _ u_1097) (fun _ h9 => h9) rfl dX9_entryShare_27 ?_
    refine va_get (D := G.1) (ci := 10) (v := .ref (va 13)) (C := RX8) (T := TX8) (N := 6) hx hb hts uws_X8 hown hK hP 1 rfl rfl 5 (by decide) (hts _ u_1034) (fun _ h9 => h9) rfl dX9_entryShare_30 ?_
    refine lv_iconst (v := (0 : Int32)) hx hb dX9_entryShare_33 (by decide) ?_
    refine r_V (own := RX9) (v := (some (.int (f_X0_countResults v.2.2.2.2.2 (0 : Int32))))) (st1 := [.int (f_X0_countResults v.2.2.2.2.2 (0 : Int32))]) (As := [.int (0 : Int32)]) (rest := []) (c_X0_countResults l G (va 13) (va 14) (va 15) (va 16) (va 17) (va 18) (va 19) v.2.2.2.2.2 (0 : Int32)) ⟨hx, hb, hml, hown, hts⟩ g_X9_265 hdv_X0_countResults hK hST hS hP [14, 15, 16, 17, 18, 19, 20] rfl (k0 := 0) rfl rfl rfl ⟨Nat.le_of_ble_eq_true rfl, Nat.le_of_ble_eq_true rfl⟩ ⟨Nat.le_of_ble_eq_true rfl, Nat.le_of_ble_eq_true rfl⟩ rfl hl.1 rfl (Nat.le_of_ble_eq_true rfl) dX9_entryShare_34 rfl (fun b_2 => ?_)
    refine lv_i2d hx hb dX9_entryShare_37 ?_
    refine lv_iload_n hx hb dX9_entryShare_38 rfl (lv_at hl 0 rfl) ?_
    refine lv_i2d hx hb dX9_entryShare_39 ?_
    have h_3 := hok.1
    have hok := hok.2
    refine lv_ddiv hx hb dX9_entryShare_40 h_3 ?_
    exact x_retD hx hb hr hlk (by rw [hF]) ⟨congrArg Prod.fst hF, trivial⟩ (Nat.le_of_ble_eq_true rfl) (Nat.le_of_ble_eq_true rfl) dX9_entryShare_41
  · have hF := hF.trans (if_pos c_1)
    have hok := Eq.mp (if_pos c_1) hok
    exact xr_throwSW (A := (fun _ => False)) (own := RX9) (cls := "java/lang/ArithmeticException") (text := "no attempts so far") (j := 35) hlf ⟨hx, hb, hml, hown, hts⟩ hST hlk hxt (by decide +kernel) u_1570 u_48 (by decide +kernel) at_X9_275 ot_X9_275_271 hl.1 dX9_entryShare_15 dX9_entryShare_18 dX9_entryShare_19 dX9_entryShare_22 dX9_entryShare_25 ⟨Nat.le_of_ble_eq_true rfl, Nat.le_of_ble_eq_true rfl⟩ ⟨Nat.le_of_ble_eq_true rfl, Nat.le_of_ble_eq_true rfl⟩ ⟨(congrArg Prod.fst hF).symm, by decide⟩ (Nat.le_of_ble_eq_true rfl) (Nat.le_of_ble_eq_true rfl)
