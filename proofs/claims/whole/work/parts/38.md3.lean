theorem dX9_undo_0 : decode cX9_undo 0 = .ok (.aload_n 0, 1) := by decide +kernel
theorem dX9_undo_1 : decode cX9_undo 1 = .ok (.getfield 26, 3) := by decide +kernel
theorem dX9_undo_4 : decode cX9_undo 4 = .ok (.getfield 335, 3) := by decide +kernel
theorem u_240 : Cond.fieldLink RX9 335 "MoonlitDoors$History" "count" "I" ∈ UW := uw 240 (by decide +kernel) rfl
theorem dX9_undo_7 : decode cX9_undo 7 = .ok (.ifCond .ne 14, 3) := by decide +kernel
theorem dX9_undo_21 : decode cX9_undo 21 = .ok (.aload_n 0, 1) := by decide +kernel
theorem dX9_undo_22 : decode cX9_undo 22 = .ok (.getfield 26, 3) := by decide +kernel
theorem dX9_undo_25 : decode cX9_undo 25 = .ok (.aload_n 0, 1) := by decide +kernel
theorem dX9_undo_26 : decode cX9_undo 26 = .ok (.getfield 10, 3) := by decide +kernel
theorem dX9_undo_29 : decode cX9_undo 29 = .ok (.invokevirtual 338, 3) := by decide +kernel
theorem u_1658 : Cond.methodLink RX9 338 yX4_stepBack ∈ UW := uw 1658 (by decide +kernel) rfl
theorem u_1659 : Cond.instanceMethod yX4_stepBack ∈ UW := uw 1659 (by decide +kernel) rfl
theorem u_1660 : Cond.selects RX4 yX4_stepBack yX4_stepBack ∈ UW := uw 1660 (by decide +kernel) rfl
theorem u_1661 : Cond.code yX4_stepBack cX4_stepBack 2 none ∈ UW := uw 1661 (by decide +kernel) rfl
theorem g_X9_338 : GoodIn UW (wsV RX9 338 RX4 yX4_stepBack (wsU yX4_stepBack cX4_stepBack 2 none)) := gV u_1658 u_1659 u_1660 u_71 u_1661
theorem hdv_X4_stepBack : yX4_stepBack.cls = RX4 ∧ yX4_stepBack.cls ≠ "java/lang/invoke/MethodHandle" ∧ yX4_stepBack.cls ≠ "java/lang/invoke/VarHandle" ∧ (parseMethodDescriptor yX4_stepBack.desc).map (fun d => d.parameters.length) = some 1 := by decide +kernel
theorem dX9_undo_32 : decode cX9_undo 32 = .ok (.aload_n 0, 1) := by decide +kernel
theorem dX9_undo_33 : decode cX9_undo 33 = .ok (.getfield 26, 3) := by decide +kernel
theorem dX9_undo_36 : decode cX9_undo 36 = .ok (.getfield 335, 3) := by decide +kernel
theorem dX9_undo_39 : decode cX9_undo 39 = .ok (.ireturn, 1) := by decide +kernel
theorem dX9_undo_10 : decode cX9_undo 10 = .ok (.new 158, 3) := by decide +kernel
theorem dX9_undo_13 : decode cX9_undo 13 = .ok (.dup, 1) := by decide +kernel
theorem dX9_undo_14 : decode cX9_undo 14 = .ok (.ldc_w 336, 3) := by decide +kernel
theorem dX9_undo_17 : decode cX9_undo 17 = .ok (.invokespecial 162, 3) := by decide +kernel
theorem dX9_undo_20 : decode cX9_undo 20 = .ok (.athrow, 1) := by decide +kernel
def f_X9_undo (q : McV) (v : StV) (hi : HiV) (hs : Nat → StV) : String × Int32 × StV × HiV × (Nat → StV) := (if hi.1 = (0 : Int32) then ("java/lang/IllegalStateException", 0, v, hi, hs) else (let u_4 : HiV × StV := (f_X4_stepBack hi hs v); ("", u_4.1.1, u_4.2, u_4.1, hs)))
def ok_X9_undo (q : McV) (v : StV) (hi : HiV) (hs : Nat → StV) : Prop := (if hi.1 = (0 : Int32) then True else (nx9 (f_J9_floorMod_7cf53 (hi.2 - (1 : Int32)) (9 : Int32)) ∧ True))
set_option maxHeartbeats 4000000 in
set_option maxRecDepth 100000 in
theorem c_X9_undo (l : Launch) (hlf : l.stackTraces = false) (G : GG) (qh0 : Nat) (q_snapshot : Nat) (q_program : Nat) (q_notice : Nat) (va : Nat → Nat) (hih0 : Nat) (hsh : Nat) (hsa : Nat → Nat → Nat) (sz : Nat) (q : McV) (v : StV) (hi : HiV) (hs : Nat → StV) (hok : ok_X9_undo q v hi hs) : xwMet l yX9_undo cX9_undo 1 (some .int) 8 1 6 G (fl [[(qh0, .inr (11, [.ref (va 0), .ref q_snapshot, .int q.1, .ref hih0, .ref q_program, .ref q_notice, .int q.2.1, .int q.2.2]))], [((va 0), .inr (10, [.int v.1, .int v.2.1, .ref (va 1), .ref (va 6), .ref (va 10), .ref (va 13)]))], wDo G (va 1) (va 2) (va 3) (va 4) (va 5) v.2.2.1, wEx G (va 6) (va 7) (va 8) (va 9) v.2.2.2.1, wPe G (va 10) (va 11) (va 12) v.2.2.2.2.1, wAu G (va 13) (va 14) (va 15) (va 16) (va 17) (va 18) (va 19) v.2.2.2.2.2, [(hih0, .inr (7, [.int hi.1, .int hi.2, .ref hsh]))], wHs G hsh hsa hs]) [.ref qh0] sz (fun u : String × Int32 × StV × HiV × (Nat → StV) => some (.int u.2.1)) (fun u : String × Int32 × StV × HiV × (Nat → StV) => u = f_X9_undo q v hi hs ∧ (f_X9_undo q v hi hs).1 = "" ∧ True) (fun u : String × Int32 × StV × HiV × (Nat → StV) => fl [[(qh0, .inr (11, [.ref (va 0), .ref q_snapshot, .int q.1, .ref hih0, .ref q_program, .ref q_notice, .int q.2.1, .int q.2.2]))], [((va 0), .inr (10, [.int u.2.2.1.1, .int u.2.2.1.2.1, .ref (va 1), .ref (va 6), .ref (va 10), .ref (va 13)]))], wDo G (va 1) (va 2) (va 3) (va 4) (va 5) u.2.2.1.2.2.1, wEx G (va 6) (va 7) (va 8) (va 9) u.2.2.1.2.2.2.1, wPe G (va 10) (va 11) (va 12) u.2.2.1.2.2.2.2.1, wAu G (va 13) (va 14) (va 15) (va 16) (va 17) (va 18) (va 19) u.2.2.1.2.2.2.2.2, [(hih0, .inr (7, [.int u.2.2.2.1.1, .int u.2.2.2.1.2, .ref hsh]))], wHs G hsh hsa u.2.2.2.2]) (fun E => E = (f_X9_undo q v hi hs).1 ∧ E ≠ "") := by
  refine xw_start (by decide +kernel) (Nat.le_of_ble_eq_true rfl) ?_
  intro p e s m below meth c A hx hb hr hml hts hown hlk hxt hP hD hA hK hST ls hl
  have hS : va_S A s.heap s.heap [] := va_S.rf
  have hown : s.vm.findClass RX9 = some m.cls := hown
  have hl : lv_has ls 1 [(0, .ref qh0)] := hl
  have hF : f_X9_undo q v hi hs = (if hi.1 = (0 : Int32) then ("java/lang/IllegalStateException", 0, v, hi, hs) else (let u_4 : HiV × StV := (f_X4_stepBack hi hs v); ("", u_4.1.1, u_4.2, u_4.1, hs))) := rfl
  have hok : (if hi.1 = (0 : Int32) then True else (nx9 (f_J9_floorMod_7cf53 (hi.2 - (1 : Int32)) (9 : Int32)) ∧ True)) := hok
  refine lv_aload_n hx hb dX9_undo_0 rfl (lv_at hl 0 rfl) ?_
  refine va_get (D := G.1) (ci := 11) (v := .ref hih0) (C := RX9) (T := TX9) (N := 8) hx hb hts uws_X9 hown hK hP 0 rfl rfl 3 (by decide) (hts _ u_314) (fun _ h9 => h9) rfl dX9_undo_1 ?_
  refine va_get (D := G.1) (ci := 7) (v := .int hi.1) (C := RX4) (T := TX4) (N := 3) hx hb hts uws_X4 hown hK hP 21 rfl rfl 0 (by decide) (hts _ u_240) (fun _ h9 => h9) rfl dX9_undo_4 ?_
  refine lv_if_ne (tgt := 21) hx hb dX9_undo_7 (by decide) (fun c_1 => ?_) (fun c_1 => ?_)
  · have hF := hF.trans (if_neg c_1)
    have hok := Eq.mp (if_neg c_1) hok
    refine lv_aload_n hx hb dX9_undo_21 rfl (lv_at hl 0 rfl) ?_
    refine va_get (D := G.1) (ci := 11) (v := .ref hih0) (C := RX9) (T := TX9) (N := 8) hx hb hts uws_X9 hown hK hP 0 rfl rfl 3 (by decide) (hts _ u_314) (fun _ h9 => h9) rfl dX9_undo_22 ?_
    refine lv_aload_n hx hb dX9_undo_25 rfl (lv_at hl 0 rfl) ?_
    refine va_get (D := G.1) (ci := 11) (v := .ref (va 0)) (C := RX9) (T := TX9) (N := 8) hx hb hts uws_X9 hown hK hP 0 rfl rfl 0 (by decide) (hts _ u_311) (fun _ h9 => h9) rfl dX9_undo_26 ?_
    have k_2 := hok.1
    have hok := hok.2
    refine w_V (own := RX9) (cs := [[(hih0, .inr (7, [.int hi.1, .int hi.2, .ref hsh]))], wHs G hsh hsa hs, [((va 0), .inr (10, [.int v.1, .int v.2.1, .ref (va 1), .ref (va 6), .ref (va 10), .ref (va 13)]))], wDo G (va 1) (va 2) (va 3) (va 4) (va 5) v.2.2.1, wEx G (va 6) (va 7) (va 8) (va 9) v.2.2.2.1, wPe G (va 10) (va 11) (va 12) v.2.2.2.2.1, wAu G (va 13) (va 14) (va 15) (va 16) (va 17) (va 18) (va 19) v.2.2.2.2.2]) (rs := [[(qh0, .inr (11, [.ref (va 0), .ref q_snapshot, .int q.1, .ref hih0, .ref q_program, .ref q_notice, .int q.2.1, .int q.2.2]))]]) (As := [.ref (va 0)]) (rest := []) (c_X4_stepBack l G hih0 hsh hsa va s.heap.size hi hs v k_2) ⟨hx, hb, hml, hown, hts⟩ g_X9_338 hdv_X4_stepBack hK hST hS hP hD hA [6, 7, 1, 2, 3, 4, 5] [0] rfl rfl rfl (k0 := 0) rfl rfl rfl ⟨Nat.le_of_ble_eq_true rfl, Nat.le_of_ble_eq_true rfl⟩ ⟨Nat.le_of_ble_eq_true rfl, Nat.le_of_ble_eq_true rfl⟩ rfl hl.1 rfl (Nat.le_of_ble_eq_true rfl) dX9_undo_29 (fun u_4 H locs huu hP hD hS => ?_)
    have eu_4 := huu
    have hP : va_P G.1 vwCl (fl [[(hih0, .inr (7, [.int u_4.1.1, .int u_4.1.2, .ref hsh]))], wHs G hsh hsa hs, [((va 0), .inr (10, [.int u_4.2.1, .int u_4.2.2.1, .ref (va 1), .ref (va 6), .ref (va 10), .ref (va 13)]))], wDo G (va 1) (va 2) (va 3) (va 4) (va 5) u_4.2.2.2.1, wEx G (va 6) (va 7) (va 8) (va 9) u_4.2.2.2.2.1, wPe G (va 10) (va 11) (va 12) u_4.2.2.2.2.2.1, wAu G (va 13) (va 14) (va 15) (va 16) (va 17) (va 18) (va 19) u_4.2.2.2.2.2.2, [(qh0, .inr (11, [.ref (va 0), .ref q_snapshot, .int q.1, .ref hih0, .ref q_program, .ref q_notice, .int q.2.1, .int q.2.2]))]]) H := hP
    have hD : va_D A (fl [[(hih0, .inr (7, [.int u_4.1.1, .int u_4.1.2, .ref hsh]))], wHs G hsh hsa hs, [((va 0), .inr (10, [.int u_4.2.1, .int u_4.2.2.1, .ref (va 1), .ref (va 6), .ref (va 10), .ref (va 13)]))], wDo G (va 1) (va 2) (va 3) (va 4) (va 5) u_4.2.2.2.1, wEx G (va 6) (va 7) (va 8) (va 9) u_4.2.2.2.2.1, wPe G (va 10) (va 11) (va 12) u_4.2.2.2.2.2.1, wAu G (va 13) (va 14) (va 15) (va 16) (va 17) (va 18) (va 19) u_4.2.2.2.2.2.2, [(qh0, .inr (11, [.ref (va 0), .ref q_snapshot, .int q.1, .ref hih0, .ref q_program, .ref q_notice, .int q.2.1, .int q.2.2]))]]) := hD
    refine W.eq (g2 := F0 m 32 ls []) rfl ?_
    have hF : f_X9_undo q v hi hs = ("", u_4.1.1, u_4.2, u_4.1, hs) := by subst eu_4; exact hF
    refine lv_aload_n hx hb dX9_undo_32 rfl (lv_at hl 0 rfl) ?_
    refine va_get (D := G.1) (ci := 11) (v := .ref hih0) (C := RX9) (T := TX9) (N := 8) hx hb hts uws_X9 hown hK hP 202 rfl rfl 3 (by decide) (hts _ u_314) (fun _ h9 => h9) rfl dX9_undo_33 ?_
    refine va_get (D := G.1) (ci := 7) (v := .int u_4.1.1) (C := RX4) (T := TX4) (N := 3) hx hb hts uws_X4 hown hK hP 0 rfl rfl 0 (by decide) (hts _ u_240) (fun _ h9 => h9) rfl dX9_undo_36 ?_
    have hP := fl_sub (cs := [[(qh0, .inr (11, [.ref (va 0), .ref q_snapshot, .int q.1, .ref hih0, .ref q_program, .ref q_notice, .int q.2.1, .int q.2.2]))], [((va 0), .inr (10, [.int u_4.2.1, .int u_4.2.2.1, .ref (va 1), .ref (va 6), .ref (va 10), .ref (va 13)]))], wDo G (va 1) (va 2) (va 3) (va 4) (va 5) u_4.2.2.2.1, wEx G (va 6) (va 7) (va 8) (va 9) u_4.2.2.2.2.1, wPe G (va 10) (va 11) (va 12) u_4.2.2.2.2.2.1, wAu G (va 13) (va 14) (va 15) (va 16) (va 17) (va 18) (va 19) u_4.2.2.2.2.2.2, [(hih0, .inr (7, [.int u_4.1.1, .int u_4.1.2, .ref hsh]))], wHs G hsh hsa hs]) [7, 2, 3, 4, 5, 6, 0, 1] rfl hP
    have hD := fl_subD (cs := [[(qh0, .inr (11, [.ref (va 0), .ref q_snapshot, .int q.1, .ref hih0, .ref q_program, .ref q_notice, .int q.2.1, .int q.2.2]))], [((va 0), .inr (10, [.int u_4.2.1, .int u_4.2.2.1, .ref (va 1), .ref (va 6), .ref (va 10), .ref (va 13)]))], wDo G (va 1) (va 2) (va 3) (va 4) (va 5) u_4.2.2.2.1, wEx G (va 6) (va 7) (va 8) (va 9) u_4.2.2.2.2.1, wPe G (va 10) (va 11) (va 12) u_4.2.2.2.2.2.1, wAu G (va 13) (va 14) (va 15) (va 16) (va 17) (va 18) (va 19) u_4.2.2.2.2.2.2, [(hih0, .inr (7, [.int u_4.1.1, .int u_4.1.2, .ref hsh]))], wHs G hsh hsa hs]) [7, 2, 3, 4, 5, 6, 0, 1] rfl rfl hD
    exact x_ret (Nat.le_of_ble_eq_true rfl) (Nat.le_of_ble_eq_true rfl) (w_ret (u := ("", u_4.1.1, u_4.2, u_4.1, hs)) hx hb hr hlk rfl hS rfl ⟨hF.symm, ⟨congrArg Prod.fst hF, trivial⟩⟩ hP hD (Nat.le_refl _) (Nat.le_refl _) dX9_undo_39)
  · have hF := hF.trans (if_pos c_1)
    have hok := Eq.mp (if_pos c_1) hok
    exact xr_throwSW (A := A) (own := RX9) (cls := "java/lang/IllegalStateException") (text := "nothing can be undone") (j := 31) hlf ⟨hx, hb, hml, hown, hts⟩ hST hlk hxt (by decide +kernel) u_536 u_86 (by decide +kernel) at_X9_162 ot_X9_162_158 hl.1 dX9_undo_10 dX9_undo_13 dX9_undo_14 dX9_undo_17 dX9_undo_20 ⟨Nat.le_of_ble_eq_true rfl, Nat.le_of_ble_eq_true rfl⟩ ⟨Nat.le_of_ble_eq_true rfl, Nat.le_of_ble_eq_true rfl⟩ ⟨(congrArg Prod.fst hF).symm, by decide⟩ (Nat.le_of_ble_eq_true rfl) (Nat.le_of_ble_eq_true rfl)
theorem dX9_save_0 : decode cX9_save 0 = .ok (.aload_n 0, 1) := by decide +kernel
theorem dX9_save_1 : decode cX9_save 1 = .ok (.getfield 16, 3) := by decide +kernel
theorem u_312 : Cond.fieldLink RX9 16 "MoonlitDoors" "snapshot" "LMoonlitDoors$State;" ∈ UW := uw 312 (by decide +kernel) rfl
theorem dX9_save_4 : decode cX9_save 4 = .ok (.aload_n 0, 1) := by decide +kernel
theorem dX9_save_5 : decode cX9_save 5 = .ok (.getfield 10, 3) := by decide +kernel
theorem dX9_save_8 : decode cX9_save 8 = .ok (.invokevirtual 341, 3) := by decide +kernel
theorem u_374 : Cond.methodLink RX9 341 yX8_copyFrom ∈ UW := uw 374 (by decide +kernel) rfl
theorem g_X9_341 : GoodIn UW (wsV RX9 341 RX8 yX8_copyFrom (wsU yX8_copyFrom cX8_copyFrom 2 none)) := gV u_374 u_375 u_376 u_66 u_377
theorem dX9_save_11 : decode cX9_save 11 = .ok (.aload_n 0, 1) := by decide +kernel
theorem dX9_save_12 : decode cX9_save 12 = .ok (.iconst 1, 1) := by decide +kernel
theorem dX9_save_13 : decode cX9_save 13 = .ok (.putfield 19, 3) := by decide +kernel
theorem u_313 : Cond.fieldLink RX9 19 "MoonlitDoors" "snapshotTaken" "Z" ∈ UW := uw 313 (by decide +kernel) rfl
theorem dX9_save_16 : decode cX9_save 16 = .ok (.aload_n 0, 1) := by decide +kernel
theorem dX9_save_17 : decode cX9_save 17 = .ok (.getfield 10, 3) := by decide +kernel
theorem dX9_save_20 : decode cX9_save 20 = .ok (.getfield 243, 3) := by decide +kernel
theorem dX9_save_23 : decode cX9_save 23 = .ok (.getfield 268, 3) := by decide +kernel
theorem u_184 : Cond.fieldLink RX9 268 "MoonlitDoors$Audits" "attempts" "I" ∈ UW := uw 184 (by decide +kernel) rfl
theorem dX9_save_26 : decode cX9_save 26 = .ok (.ireturn, 1) := by decide +kernel
def f_X9_save (q : McV) (v : StV) (o : StV) : Int32 × McV × StV := (let u_2 : StV := (f_X8_copyFrom o v); (v.2.2.2.2.2.1, ((1 : Int32), q.2.1, q.2.2), u_2))
set_option maxHeartbeats 4000000 in
set_option maxRecDepth 100000 in
theorem c_X9_save (l : Launch) (G : GG) (qh0 : Nat) (q_history : Nat) (q_program : Nat) (q_notice : Nat) (va : Nat → Nat) (oa : Nat → Nat) (sz : Nat) (q : McV) (v : StV) (o : StV) : wMet l yX9_save cX9_save 1 (some .int) 4 0 0 G (fl [[(qh0, .inr (11, [.ref (va 0), .ref (oa 0), .int q.1, .ref q_history, .ref q_program, .ref q_notice, .int q.2.1, .int q.2.2]))], [((va 0), .inr (10, [.int v.1, .int v.2.1, .ref (va 1), .ref (va 6), .ref (va 10), .ref (va 13)]))], wDo G (va 1) (va 2) (va 3) (va 4) (va 5) v.2.2.1, wEx G (va 6) (va 7) (va 8) (va 9) v.2.2.2.1, wPe G (va 10) (va 11) (va 12) v.2.2.2.2.1, wAu G (va 13) (va 14) (va 15) (va 16) (va 17) (va 18) (va 19) v.2.2.2.2.2, [((oa 0), .inr (10, [.int o.1, .int o.2.1, .ref (oa 1), .ref (oa 6), .ref (oa 10), .ref (oa 13)]))], wDo G (oa 1) (oa 2) (oa 3) (oa 4) (oa 5) o.2.2.1, wEx G (oa 6) (oa 7) (oa 8) (oa 9) o.2.2.2.1, wPe G (oa 10) (oa 11) (oa 12) o.2.2.2.2.1, wAu G (oa 13) (oa 14) (oa 15) (oa 16) (oa 17) (oa 18) (oa 19) o.2.2.2.2.2]) [.ref qh0] sz (fun u : Int32 × McV × StV => some (.int u.1)) (fun u : Int32 × McV × StV => u = f_X9_save q v o) (fun u : Int32 × McV × StV => fl [[(qh0, .inr (11, [.ref (va 0), .ref (oa 0), .int u.2.1.1, .ref q_history, .ref q_program, .ref q_notice, .int u.2.1.2.1, .int u.2.1.2.2]))], [((va 0), .inr (10, [.int v.1, .int v.2.1, .ref (va 1), .ref (va 6), .ref (va 10), .ref (va 13)]))], wDo G (va 1) (va 2) (va 3) (va 4) (va 5) v.2.2.1, wEx G (va 6) (va 7) (va 8) (va 9) v.2.2.2.1, wPe G (va 10) (va 11) (va 12) v.2.2.2.2.1, wAu G (va 13) (va 14) (va 15) (va 16) (va 17) (va 18) (va 19) v.2.2.2.2.2, [((oa 0), .inr (10, [.int u.2.2.1, .int u.2.2.2.1, .ref (oa 1), .ref (oa 6), .ref (oa 10), .ref (oa 13)]))], wDo G (oa 1) (oa 2) (oa 3) (oa 4) (oa 5) u.2.2.2.2.1, wEx G (oa 6) (oa 7) (oa 8) (oa 9) u.2.2.2.2.2.1, wPe G (oa 10) (oa 11) (oa 12) u.2.2.2.2.2.2.1, wAu G (oa 13) (oa 14) (oa 15) (oa 16) (oa 17) (oa 18) (oa 19) u.2.2.2.2.2.2.2]) := by
  refine w_start (by decide +kernel) (Nat.le_of_ble_eq_true rfl) ?_
  intro p e s m below meth c A hx hb hr hml hts hown hlk hin hP hD hA hK hST ls hl
  have hS : va_S A s.heap s.heap [] := va_S.rf
  have hown : s.vm.findClass RX9 = some m.cls := hown
  have hl : lv_has ls 1 [(0, .ref qh0)] := hl
  have hF : f_X9_save q v o = (let u_2 : StV := (f_X8_copyFrom o v); (v.2.2.2.2.2.1, ((1 : Int32), q.2.1, q.2.2), u_2)) := rfl
  refine lv_aload_n hx hb dX9_save_0 rfl (lv_at hl 0 rfl) ?_
  refine va_get (D := G.1) (ci := 11) (v := .ref (oa 0)) (C := RX9) (T := TX9) (N := 8) hx hb hts uws_X9 hown hK hP 0 rfl rfl 1 (by decide) (hts _ u_312) (fun _ h9 => h9) rfl dX9_save_1 ?_
  refine lv_aload_n hx hb dX9_save_4 rfl (lv_at hl 0 rfl) ?_
  refine va_get (D := G.1) (ci := 11) (v := .ref (va 0)) (C := RX9) (T := TX9) (N := 8) hx hb hts uws_X9 hown hK hP 0 rfl rfl 0 (by decide) (hts _ u_311) (fun _ h9 => h9) rfl dX9_save_5 ?_
  refine w_V (own := RX9) (cs := [[((oa 0), .inr (10, [.int o.1, .int o.2.1, .ref (oa 1), .ref (oa 6), .ref (oa 10), .ref (oa 13)]))], wDo G (oa 1) (oa 2) (oa 3) (oa 4) (oa 5) o.2.2.1, wEx G (oa 6) (oa 7) (oa 8) (oa 9) o.2.2.2.1, wPe G (oa 10) (oa 11) (oa 12) o.2.2.2.2.1, wAu G (oa 13) (oa 14) (oa 15) (oa 16) (oa 17) (oa 18) (oa 19) o.2.2.2.2.2, [((va 0), .inr (10, [.int v.1, .int v.2.1, .ref (va 1), .ref (va 6), .ref (va 10), .ref (va 13)]))], wDo G (va 1) (va 2) (va 3) (va 4) (va 5) v.2.2.1, wEx G (va 6) (va 7) (va 8) (va 9) v.2.2.2.1, wPe G (va 10) (va 11) (va 12) v.2.2.2.2.1, wAu G (va 13) (va 14) (va 15) (va 16) (va 17) (va 18) (va 19) v.2.2.2.2.2]) (rs := [[(qh0, .inr (11, [.ref (va 0), .ref (oa 0), .int q.1, .ref q_history, .ref q_program, .ref q_notice, .int q.2.1, .int q.2.2]))]]) (As := [.ref (va 0)]) (rest := []) (c_X8_copyFrom l G oa va s.heap.size o v) ⟨hx, hb, hml, hown, hts⟩ g_X9_341 hdv_X8_copyFrom hK hST hS hP hD hA [6, 7, 8, 9, 10, 1, 2, 3, 4, 5] [0] rfl rfl rfl (k0 := 0) rfl rfl rfl ⟨Nat.le_of_ble_eq_true rfl, Nat.le_of_ble_eq_true rfl⟩ ⟨Nat.le_of_ble_eq_true rfl, Nat.le_of_ble_eq_true rfl⟩ rfl hl.1 rfl (Nat.le_of_ble_eq_true rfl) dX9_save_8 (fun u_2 H locs huu hP hD hS => ?_)
  have eu_2 := huu
  have hP : va_P G.1 vwCl (fl [[((oa 0), .inr (10, [.int u_2.1, .int u_2.2.1, .ref (oa 1), .ref (oa 6), .ref (oa 10), .ref (oa 13)]))], wDo G (oa 1) (oa 2) (oa 3) (oa 4) (oa 5) u_2.2.2.1, wEx G (oa 6) (oa 7) (oa 8) (oa 9) u_2.2.2.2.1, wPe G (oa 10) (oa 11) (oa 12) u_2.2.2.2.2.1, wAu G (oa 13) (oa 14) (oa 15) (oa 16) (oa 17) (oa 18) (oa 19) u_2.2.2.2.2.2, [((va 0), .inr (10, [.int v.1, .int v.2.1, .ref (va 1), .ref (va 6), .ref (va 10), .ref (va 13)]))], wDo G (va 1) (va 2) (va 3) (va 4) (va 5) v.2.2.1, wEx G (va 6) (va 7) (va 8) (va 9) v.2.2.2.1, wPe G (va 10) (va 11) (va 12) v.2.2.2.2.1, wAu G (va 13) (va 14) (va 15) (va 16) (va 17) (va 18) (va 19) v.2.2.2.2.2, [(qh0, .inr (11, [.ref (va 0), .ref (oa 0), .int q.1, .ref q_history, .ref q_program, .ref q_notice, .int q.2.1, .int q.2.2]))]]) H := hP
  have hD : va_D A (fl [[((oa 0), .inr (10, [.int u_2.1, .int u_2.2.1, .ref (oa 1), .ref (oa 6), .ref (oa 10), .ref (oa 13)]))], wDo G (oa 1) (oa 2) (oa 3) (oa 4) (oa 5) u_2.2.2.1, wEx G (oa 6) (oa 7) (oa 8) (oa 9) u_2.2.2.2.1, wPe G (oa 10) (oa 11) (oa 12) u_2.2.2.2.2.1, wAu G (oa 13) (oa 14) (oa 15) (oa 16) (oa 17) (oa 18) (oa 19) u_2.2.2.2.2.2, [((va 0), .inr (10, [.int v.1, .int v.2.1, .ref (va 1), .ref (va 6), .ref (va 10), .ref (va 13)]))], wDo G (va 1) (va 2) (va 3) (va 4) (va 5) v.2.2.1, wEx G (va 6) (va 7) (va 8) (va 9) v.2.2.2.1, wPe G (va 10) (va 11) (va 12) v.2.2.2.2.1, wAu G (va 13) (va 14) (va 15) (va 16) (va 17) (va 18) (va 19) v.2.2.2.2.2, [(qh0, .inr (11, [.ref (va 0), .ref (oa 0), .int q.1, .ref q_history, .ref q_program, .ref q_notice, .int q.2.1, .int q.2.2]))]]) := hD
  refine W.eq (g2 := F0 m 11 ls []) rfl ?_
  have hF : f_X9_save q v o = (v.2.2.2.2.2.1, ((1 : Int32), q.2.1, q.2.2), u_2) := by subst eu_2; exact hF
  refine lv_aload_n hx hb dX9_save_11 rfl (lv_at hl 0 rfl) ?_
  refine lv_iconst (v := (1 : Int32)) hx hb dX9_save_12 (by decide) ?_
  refine va_put (D := G.1) (ci := 11) (v := .int (1 : Int32)) (ty := .boolean) (C := RX9) (T := TX9) (N := 8) hx hb hts uws_X9 tyX9 tyX9_ok nmX9 hown hK hP hD hS 40 rfl rfl 2 (by decide) (hts _ u_313) (fun _ h9 => h9) rfl (by decide +kernel) rfl rfl (Nat.le_of_ble_eq_true rfl) dX9_save_13 (fun H locs hP hD hS => ?_)
  have hP : va_P G.1 vwCl (fl [[((oa 0), .inr (10, [.int u_2.1, .int u_2.2.1, .ref (oa 1), .ref (oa 6), .ref (oa 10), .ref (oa 13)]))], wDo G (oa 1) (oa 2) (oa 3) (oa 4) (oa 5) u_2.2.2.1, wEx G (oa 6) (oa 7) (oa 8) (oa 9) u_2.2.2.2.1, wPe G (oa 10) (oa 11) (oa 12) u_2.2.2.2.2.1, wAu G (oa 13) (oa 14) (oa 15) (oa 16) (oa 17) (oa 18) (oa 19) u_2.2.2.2.2.2, [((va 0), .inr (10, [.int v.1, .int v.2.1, .ref (va 1), .ref (va 6), .ref (va 10), .ref (va 13)]))], wDo G (va 1) (va 2) (va 3) (va 4) (va 5) v.2.2.1, wEx G (va 6) (va 7) (va 8) (va 9) v.2.2.2.1, wPe G (va 10) (va 11) (va 12) v.2.2.2.2.1, wAu G (va 13) (va 14) (va 15) (va 16) (va 17) (va 18) (va 19) v.2.2.2.2.2, [(qh0, .inr (11, [.ref (va 0), .ref (oa 0), .int (1 : Int32), .ref q_history, .ref q_program, .ref q_notice, .int q.2.1, .int q.2.2]))]]) H := hP
  have hD : va_D A (fl [[((oa 0), .inr (10, [.int u_2.1, .int u_2.2.1, .ref (oa 1), .ref (oa 6), .ref (oa 10), .ref (oa 13)]))], wDo G (oa 1) (oa 2) (oa 3) (oa 4) (oa 5) u_2.2.2.1, wEx G (oa 6) (oa 7) (oa 8) (oa 9) u_2.2.2.2.1, wPe G (oa 10) (oa 11) (oa 12) u_2.2.2.2.2.1, wAu G (oa 13) (oa 14) (oa 15) (oa 16) (oa 17) (oa 18) (oa 19) u_2.2.2.2.2.2, [((va 0), .inr (10, [.int v.1, .int v.2.1, .ref (va 1), .ref (va 6), .ref (va 10), .ref (va 13)]))], wDo G (va 1) (va 2) (va 3) (va 4) (va 5) v.2.2.1, wEx G (va 6) (va 7) (va 8) (va 9) v.2.2.2.1, wPe G (va 10) (va 11) (va 12) v.2.2.2.2.1, wAu G (va 13) (va 14) (va 15) (va 16) (va 17) (va 18) (va 19) v.2.2.2.2.2, [(qh0, .inr (11, [.ref (va 0), .ref (oa 0), .int (1 : Int32), .ref q_history, .ref q_program, .ref q_notice, .int q.2.1, .int q.2.2]))]]) := hD
  refine lv_aload_n hx hb dX9_save_16 rfl (lv_at hl 0 rfl) ?_
  refine va_get (D := G.1) (ci := 11) (v := .ref (va 0)) (C := RX9) (T := TX9) (N := 8) hx hb hts uws_X9 hown hK hP 40 rfl rfl 0 (by decide) (hts _ u_311) (fun _ h9 => h9) rfl dX9_save_17 ?_
  refine va_get (D := G.1) (ci := 10) (v := .ref (va 13)) (C := RX8) (T := TX8) (N := 6) hx hb hts uws_X8 hown hK hP 20 rfl rfl 5 (by decide) (hts _ u_216) (fun _ h9 => h9) rfl dX9_save_20 ?_
  refine va_get (D := G.1) (ci := 4) (v := .int v.2.2.2.2.2.1) (C := RX0) (T := TX0) (N := 7) hx hb hts uws_X0 hown hK hP 33 rfl rfl 0 (by decide) (hts _ u_184) (fun _ h9 => h9) rfl dX9_save_23 ?_
  have hP := fl_sub (cs := [[(qh0, .inr (11, [.ref (va 0), .ref (oa 0), .int (1 : Int32), .ref q_history, .ref q_program, .ref q_notice, .int q.2.1, .int q.2.2]))], [((va 0), .inr (10, [.int v.1, .int v.2.1, .ref (va 1), .ref (va 6), .ref (va 10), .ref (va 13)]))], wDo G (va 1) (va 2) (va 3) (va 4) (va 5) v.2.2.1, wEx G (va 6) (va 7) (va 8) (va 9) v.2.2.2.1, wPe G (va 10) (va 11) (va 12) v.2.2.2.2.1, wAu G (va 13) (va 14) (va 15) (va 16) (va 17) (va 18) (va 19) v.2.2.2.2.2, [((oa 0), .inr (10, [.int u_2.1, .int u_2.2.1, .ref (oa 1), .ref (oa 6), .ref (oa 10), .ref (oa 13)]))], wDo G (oa 1) (oa 2) (oa 3) (oa 4) (oa 5) u_2.2.2.1, wEx G (oa 6) (oa 7) (oa 8) (oa 9) u_2.2.2.2.1, wPe G (oa 10) (oa 11) (oa 12) u_2.2.2.2.2.1, wAu G (oa 13) (oa 14) (oa 15) (oa 16) (oa 17) (oa 18) (oa 19) u_2.2.2.2.2.2]) [10, 5, 6, 7, 8, 9, 0, 1, 2, 3, 4] rfl hP
  have hD := fl_subD (cs := [[(qh0, .inr (11, [.ref (va 0), .ref (oa 0), .int (1 : Int32), .ref q_history, .ref q_program, .ref q_notice, .int q.2.1, .int q.2.2]))], [((va 0), .inr (10, [.int v.1, .int v.2.1, .ref (va 1), .ref (va 6), .ref (va 10), .ref (va 13)]))], wDo G (va 1) (va 2) (va 3) (va 4) (va 5) v.2.2.1, wEx G (va 6) (va 7) (va 8) (va 9) v.2.2.2.1, wPe G (va 10) (va 11) (va 12) v.2.2.2.2.1, wAu G (va 13) (va 14) (va 15) (va 16) (va 17) (va 18) (va 19) v.2.2.2.2.2, [((oa 0), .inr (10, [.int u_2.1, .int u_2.2.1, .ref (oa 1), .ref (oa 6), .ref (oa 10), .ref (oa 13)]))], wDo G (oa 1) (oa 2) (oa 3) (oa 4) (oa 5) u_2.2.2.1, wEx G (oa 6) (oa 7) (oa 8) (oa 9) u_2.2.2.2.1, wPe G (oa 10) (oa 11) (oa 12) u_2.2.2.2.2.1, wAu G (oa 13) (oa 14) (oa 15) (oa 16) (oa 17) (oa 18) (oa 19) u_2.2.2.2.2.2]) [10, 5, 6, 7, 8, 9, 0, 1, 2, 3, 4] rfl rfl hD
  exact w_ret (u := (v.2.2.2.2.2.1, ((1 : Int32), q.2.1, q.2.2), u_2)) hx hb hr hlk rfl hS rfl hF.symm hP hD (Nat.le_of_ble_eq_true rfl) (Nat.le_of_ble_eq_true rfl) dX9_save_26
theorem dX9_restore_0 : decode cX9_restore 0 = .ok (.aload_n 0, 1) := by decide +kernel
theorem dX9_restore_1 : decode cX9_restore 1 = .ok (.getfield 19, 3) := by decide +kernel
theorem dX9_restore_4 : decode cX9_restore 4 = .ok (.ifCond .ne 14, 3) := by decide +kernel
theorem dX9_restore_18 : decode cX9_restore 18 = .ok (.aload_n 0, 1) := by decide +kernel
theorem dX9_restore_19 : decode cX9_restore 19 = .ok (.getfield 10, 3) := by decide +kernel
theorem dX9_restore_22 : decode cX9_restore 22 = .ok (.aload_n 0, 1) := by decide +kernel
theorem dX9_restore_23 : decode cX9_restore 23 = .ok (.getfield 16, 3) := by decide +kernel
theorem dX9_restore_26 : decode cX9_restore 26 = .ok (.invokevirtual 341, 3) := by decide +kernel
theorem dX9_restore_29 : decode cX9_restore 29 = .ok (.aload_n 0, 1) := by decide +kernel
theorem dX9_restore_30 : decode cX9_restore 30 = .ok (.getfield 26, 3) := by decide +kernel
theorem dX9_restore_33 : decode cX9_restore 33 = .ok (.invokevirtual 346, 3) := by decide +kernel
theorem u_1670 : Cond.methodLink RX9 346 yX4_forget ∈ UW := uw 1670 (by decide +kernel) rfl
theorem u_1671 : Cond.instanceMethod yX4_forget ∈ UW := uw 1671 (by decide +kernel) rfl
theorem u_1672 : Cond.selects RX4 yX4_forget yX4_forget ∈ UW := uw 1672 (by decide +kernel) rfl
theorem u_1673 : Cond.code yX4_forget cX4_forget 1 none ∈ UW := uw 1673 (by decide +kernel) rfl
theorem g_X9_346 : GoodIn UW (wsV RX9 346 RX4 yX4_forget (wsU yX4_forget cX4_forget 1 none)) := gV u_1670 u_1671 u_1672 u_71 u_1673
theorem hdv_X4_forget : yX4_forget.cls = RX4 ∧ yX4_forget.cls ≠ "java/lang/invoke/MethodHandle" ∧ yX4_forget.cls ≠ "java/lang/invoke/VarHandle" ∧ (parseMethodDescriptor yX4_forget.desc).map (fun d => d.parameters.length) = some 0 := by decide +kernel
theorem dX9_restore_36 : decode cX9_restore 36 = .ok (.aload_n 0, 1) := by decide +kernel
theorem dX9_restore_37 : decode cX9_restore 37 = .ok (.getfield 10, 3) := by decide +kernel
theorem dX9_restore_40 : decode cX9_restore 40 = .ok (.getfield 243, 3) := by decide +kernel
theorem dX9_restore_43 : decode cX9_restore 43 = .ok (.getfield 268, 3) := by decide +kernel
theorem dX9_restore_46 : decode cX9_restore 46 = .ok (.ireturn, 1) := by decide +kernel
theorem dX9_restore_7 : decode cX9_restore 7 = .ok (.new 158, 3) := by decide +kernel
theorem dX9_restore_10 : decode cX9_restore 10 = .ok (.dup, 1) := by decide +kernel
theorem dX9_restore_11 : decode cX9_restore 11 = .ok (.ldc_w 344, 3) := by decide +kernel
theorem dX9_restore_14 : decode cX9_restore 14 = .ok (.invokespecial 162, 3) := by decide +kernel
theorem dX9_restore_17 : decode cX9_restore 17 = .ok (.athrow, 1) := by decide +kernel
def f_X9_restore (q : McV) (v : StV) (o : StV) (hi : HiV) : String × Int32 × StV × HiV := (if q.1 = (0 : Int32) then ("java/lang/IllegalStateException", 0, v, hi) else (let u_3 : StV := (f_X8_copyFrom v o); (let u_5 : HiV := (f_X4_forget hi); ("", u_3.2.2.2.2.2.1, u_3, u_5))))
set_option maxHeartbeats 4000000 in
set_option maxRecDepth 100000 in
theorem c_X9_restore (l : Launch) (hlf : l.stackTraces = false) (G : GG) (qh0 : Nat) (q_program : Nat) (q_notice : Nat) (va : Nat → Nat) (oa : Nat → Nat) (hih0 : Nat) (hi_rows : Nat) (sz : Nat) (q : McV) (v : StV) (o : StV) (hi : HiV) : xwMet l yX9_restore cX9_restore 1 (some .int) 8 1 6 G (fl [[(qh0, .inr (11, [.ref (va 0), .ref (oa 0), .int q.1, .ref hih0, .ref q_program, .ref q_notice, .int q.2.1, .int q.2.2]))], [((va 0), .inr (10, [.int v.1, .int v.2.1, .ref (va 1), .ref (va 6), .ref (va 10), .ref (va 13)]))], wDo G (va 1) (va 2) (va 3) (va 4) (va 5) v.2.2.1, wEx G (va 6) (va 7) (va 8) (va 9) v.2.2.2.1, wPe G (va 10) (va 11) (va 12) v.2.2.2.2.1, wAu G (va 13) (va 14) (va 15) (va 16) (va 17) (va 18) (va 19) v.2.2.2.2.2, [((oa 0), .inr (10, [.int o.1, .int o.2.1, .ref (oa 1), .ref (oa 6), .ref (oa 10), .ref (oa 13)]))], wDo G (oa 1) (oa 2) (oa 3) (oa 4) (oa 5) o.2.2.1, wEx G (oa 6) (oa 7) (oa 8) (oa 9) o.2.2.2.1, wPe G (oa 10) (oa 11) (oa 12) o.2.2.2.2.1, wAu G (oa 13) (oa 14) (oa 15) (oa 16) (oa 17) (oa 18) (oa 19) o.2.2.2.2.2, [(hih0, .inr (7, [.int hi.1, .int hi.2, .ref hi_rows]))]]) [.ref qh0] sz (fun u : String × Int32 × StV × HiV => some (.int u.2.1)) (fun u : String × Int32 × StV × HiV => u = f_X9_restore q v o hi ∧ (f_X9_restore q v o hi).1 = "" ∧ True) (fun u : String × Int32 × StV × HiV => fl [[(qh0, .inr (11, [.ref (va 0), .ref (oa 0), .int q.1, .ref hih0, .ref q_program, .ref q_notice, .int q.2.1, .int q.2.2]))], [((va 0), .inr (10, [.int u.2.2.1.1, .int u.2.2.1.2.1, .ref (va 1), .ref (va 6), .ref (va 10), .ref (va 13)]))], wDo G (va 1) (va 2) (va 3) (va 4) (va 5) u.2.2.1.2.2.1, wEx G (va 6) (va 7) (va 8) (va 9) u.2.2.1.2.2.2.1, wPe G (va 10) (va 11) (va 12) u.2.2.1.2.2.2.2.1, wAu G (va 13) (va 14) (va 15) (va 16) (va 17) (va 18) (va 19) u.2.2.1.2.2.2.2.2, [((oa 0), .inr (10, [.int o.1, .int o.2.1, .ref (oa 1), .ref (oa 6), .ref (oa 10), .ref (oa 13)]))], wDo G (oa 1) (oa 2) (oa 3) (oa 4) (oa 5) o.2.2.1, wEx G (oa 6) (oa 7) (oa 8) (oa 9) o.2.2.2.1, wPe G (oa 10) (oa 11) (oa 12) o.2.2.2.2.1, wAu G (oa 13) (oa 14) (oa 15) (oa 16) (oa 17) (oa 18) (oa 19) o.2.2.2.2.2, [(hih0, .inr (7, [.int u.2.2.2.1, .int u.2.2.2.2, .ref hi_rows]))]]) (fun E => E = (f_X9_restore q v o hi).1 ∧ E ≠ "") := by
  refine xw_start (by decide +kernel) (Nat.le_of_ble_eq_true rfl) ?_
  intro p e s m below meth c A hx hb hr hml hts hown hlk hxt hP hD hA hK hST ls hl
  have hS : va_S A s.heap s.heap [] := va_S.rf
  have hown : s.vm.findClass RX9 = some m.cls := hown
  have hl : lv_has ls 1 [(0, .ref qh0)] := hl
  have hF : f_X9_restore q v o hi = (if q.1 = (0 : Int32) then ("java/lang/IllegalStateException", 0, v, hi) else (let u_3 : StV := (f_X8_copyFrom v o); (let u_5 : HiV := (f_X4_forget hi); ("", u_3.2.2.2.2.2.1, u_3, u_5)))) := rfl
  refine lv_aload_n hx hb dX9_restore_0 rfl (lv_at hl 0 rfl) ?_
  refine va_get (D := G.1) (ci := 11) (v := .int q.1) (C := RX9) (T := TX9) (N := 8) hx hb hts uws_X9 hown hK hP 0 rfl rfl 2 (by decide) (hts _ u_313) (fun _ h9 => h9) rfl dX9_restore_1 ?_
  refine lv_if_ne (tgt := 18) hx hb dX9_restore_4 (by decide) (fun c_1 => ?_) (fun c_1 => ?_)
  · have hF := hF.trans (if_neg c_1)
    refine lv_aload_n hx hb dX9_restore_18 rfl (lv_at hl 0 rfl) ?_
    refine va_get (D := G.1) (ci := 11) (v := .ref (va 0)) (C := RX9) (T := TX9) (N := 8) hx hb hts uws_X9 hown hK hP 0 rfl rfl 0 (by decide) (hts _ u_311) (fun _ h9 => h9) rfl dX9_restore_19 ?_
    refine lv_aload_n hx hb dX9_restore_22 rfl (lv_at hl 0 rfl) ?_
    refine va_get (D := G.1) (ci := 11) (v := .ref (oa 0)) (C := RX9) (T := TX9) (N := 8) hx hb hts uws_X9 hown hK hP 0 rfl rfl 1 (by decide) (hts _ u_312) (fun _ h9 => h9) rfl dX9_restore_23 ?_
    refine w_V (own := RX9) (cs := [[((va 0), .inr (10, [.int v.1, .int v.2.1, .ref (va 1), .ref (va 6), .ref (va 10), .ref (va 13)]))], wDo G (va 1) (va 2) (va 3) (va 4) (va 5) v.2.2.1, wEx G (va 6) (va 7) (va 8) (va 9) v.2.2.2.1, wPe G (va 10) (va 11) (va 12) v.2.2.2.2.1, wAu G (va 13) (va 14) (va 15) (va 16) (va 17) (va 18) (va 19) v.2.2.2.2.2, [((oa 0), .inr (10, [.int o.1, .int o.2.1, .ref (oa 1), .ref (oa 6), .ref (oa 10), .ref (oa 13)]))], wDo G (oa 1) (oa 2) (oa 3) (oa 4) (oa 5) o.2.2.1, wEx G (oa 6) (oa 7) (oa 8) (oa 9) o.2.2.2.1, wPe G (oa 10) (oa 11) (oa 12) o.2.2.2.2.1, wAu G (oa 13) (oa 14) (oa 15) (oa 16) (oa 17) (oa 18) (oa 19) o.2.2.2.2.2]) (rs := [[(qh0, .inr (11, [.ref (va 0), .ref (oa 0), .int q.1, .ref hih0, .ref q_program, .ref q_notice, .int q.2.1, .int q.2.2]))], [(hih0, .inr (7, [.int hi.1, .int hi.2, .ref hi_rows]))]]) (As := [.ref (oa 0)]) (rest := []) (c_X8_copyFrom l G va oa s.heap.size v o) ⟨hx, hb, hml, hown, hts⟩ g_X9_341 hdv_X8_copyFrom hK hST hS hP hD hA [1, 2, 3, 4, 5, 6, 7, 8, 9, 10] [0, 11] rfl rfl rfl (k0 := 0) rfl rfl rfl ⟨Nat.le_of_ble_eq_true rfl, Nat.le_of_ble_eq_true rfl⟩ ⟨Nat.le_of_ble_eq_true rfl, Nat.le_of_ble_eq_true rfl⟩ rfl hl.1 rfl (Nat.le_of_ble_eq_true rfl) dX9_restore_26 (fun u_3 H locs huu hP hD hS => ?_)
    have eu_3 := huu
    have hP : va_P G.1 vwCl (fl [[((va 0), .inr (10, [.int u_3.1, .int u_3.2.1, .ref (va 1), .ref (va 6), .ref (va 10), .ref (va 13)]))], wDo G (va 1) (va 2) (va 3) (va 4) (va 5) u_3.2.2.1, wEx G (va 6) (va 7) (va 8) (va 9) u_3.2.2.2.1, wPe G (va 10) (va 11) (va 12) u_3.2.2.2.2.1, wAu G (va 13) (va 14) (va 15) (va 16) (va 17) (va 18) (va 19) u_3.2.2.2.2.2, [((oa 0), .inr (10, [.int o.1, .int o.2.1, .ref (oa 1), .ref (oa 6), .ref (oa 10), .ref (oa 13)]))], wDo G (oa 1) (oa 2) (oa 3) (oa 4) (oa 5) o.2.2.1, wEx G (oa 6) (oa 7) (oa 8) (oa 9) o.2.2.2.1, wPe G (oa 10) (oa 11) (oa 12) o.2.2.2.2.1, wAu G (oa 13) (oa 14) (oa 15) (oa 16) (oa 17) (oa 18) (oa 19) o.2.2.2.2.2, [(qh0, .inr (11, [.ref (va 0), .ref (oa 0), .int q.1, .ref hih0, .ref q_program, .ref q_notice, .int q.2.1, .int q.2.2]))], [(hih0, .inr (7, [.int hi.1, .int hi.2, .ref hi_rows]))]]) H := hP
    have hD : va_D A (fl [[((va 0), .inr (10, [.int u_3.1, .int u_3.2.1, .ref (va 1), .ref (va 6), .ref (va 10), .ref (va 13)]))], wDo G (va 1) (va 2) (va 3) (va 4) (va 5) u_3.2.2.1, wEx G (va 6) (va 7) (va 8) (va 9) u_3.2.2.2.1, wPe G (va 10) (va 11) (va 12) u_3.2.2.2.2.1, wAu G (va 13) (va 14) (va 15) (va 16) (va 17) (va 18) (va 19) u_3.2.2.2.2.2, [((oa 0), .inr (10, [.int o.1, .int o.2.1, .ref (oa 1), .ref (oa 6), .ref (oa 10), .ref (oa 13)]))], wDo G (oa 1) (oa 2) (oa 3) (oa 4) (oa 5) o.2.2.1, wEx G (oa 6) (oa 7) (oa 8) (oa 9) o.2.2.2.1, wPe G (oa 10) (oa 11) (oa 12) o.2.2.2.2.1, wAu G (oa 13) (oa 14) (oa 15) (oa 16) (oa 17) (oa 18) (oa 19) o.2.2.2.2.2, [(qh0, .inr (11, [.ref (va 0), .ref (oa 0), .int q.1, .ref hih0, .ref q_program, .ref q_notice, .int q.2.1, .int q.2.2]))], [(hih0, .inr (7, [.int hi.1, .int hi.2, .ref hi_rows]))]]) := hD
    refine W.eq (g2 := F0 m 29 ls []) rfl ?_
    have hF : f_X9_restore q v o hi = (let u_5 : HiV := (f_X4_forget hi); ("", u_3.2.2.2.2.2.1, u_3, u_5)) := by subst eu_3; exact hF
    refine lv_aload_n hx hb dX9_restore_29 rfl (lv_at hl 0 rfl) ?_
    refine va_get (D := G.1) (ci := 11) (v := .ref hih0) (C := RX9) (T := TX9) (N := 8) hx hb hts uws_X9 hown hK hP 40 rfl rfl 3 (by decide) (hts _ u_314) (fun _ h9 => h9) rfl dX9_restore_30 ?_
    refine w_V (own := RX9) (cs := [[(hih0, .inr (7, [.int hi.1, .int hi.2, .ref hi_rows]))]]) (rs := [[((va 0), .inr (10, [.int u_3.1, .int u_3.2.1, .ref (va 1), .ref (va 6), .ref (va 10), .ref (va 13)]))], wDo G (va 1) (va 2) (va 3) (va 4) (va 5) u_3.2.2.1, wEx G (va 6) (va 7) (va 8) (va 9) u_3.2.2.2.1, wPe G (va 10) (va 11) (va 12) u_3.2.2.2.2.1, wAu G (va 13) (va 14) (va 15) (va 16) (va 17) (va 18) (va 19) u_3.2.2.2.2.2, [((oa 0), .inr (10, [.int o.1, .int o.2.1, .ref (oa 1), .ref (oa 6), .ref (oa 10), .ref (oa 13)]))], wDo G (oa 1) (oa 2) (oa 3) (oa 4) (oa 5) o.2.2.1, wEx G (oa 6) (oa 7) (oa 8) (oa 9) o.2.2.2.1, wPe G (oa 10) (oa 11) (oa 12) o.2.2.2.2.1, wAu G (oa 13) (oa 14) (oa 15) (oa 16) (oa 17) (oa 18) (oa 19) o.2.2.2.2.2, [(qh0, .inr (11, [.ref (va 0), .ref (oa 0), .int q.1, .ref hih0, .ref q_program, .ref q_notice, .int q.2.1, .int q.2.2]))]]) (As := []) (rest := []) (c_X4_forget l G hih0 hi_rows H.size hi) ⟨hx, hb, hml, hown, hts⟩ g_X9_346 hdv_X4_forget hK hST hS hP hD hA [11] [0, 1, 2, 3, 4, 5, 6, 7, 8, 9, 10] rfl rfl rfl (k0 := 0) rfl rfl rfl ⟨Nat.le_of_ble_eq_true rfl, Nat.le_of_ble_eq_true rfl⟩ ⟨Nat.le_of_ble_eq_true rfl, Nat.le_of_ble_eq_true rfl⟩ rfl hl.1 rfl (Nat.le_of_ble_eq_true rfl) dX9_restore_33 (fun u_5 H locs huu hP hD hS => ?_)
    have eu_5 := huu
    have hP : va_P G.1 vwCl (fl [[(hih0, .inr (7, [.int u_5.1, .int u_5.2, .ref hi_rows]))], [((va 0), .inr (10, [.int u_3.1, .int u_3.2.1, .ref (va 1), .ref (va 6), .ref (va 10), .ref (va 13)]))], wDo G (va 1) (va 2) (va 3) (va 4) (va 5) u_3.2.2.1, wEx G (va 6) (va 7) (va 8) (va 9) u_3.2.2.2.1, wPe G (va 10) (va 11) (va 12) u_3.2.2.2.2.1, wAu G (va 13) (va 14) (va 15) (va 16) (va 17) (va 18) (va 19) u_3.2.2.2.2.2, [((oa 0), .inr (10, [.int o.1, .int o.2.1, .ref (oa 1), .ref (oa 6), .ref (oa 10), .ref (oa 13)]))], wDo G (oa 1) (oa 2) (oa 3) (oa 4) (oa 5) o.2.2.1, wEx G (oa 6) (oa 7) (oa 8) (oa 9) o.2.2.2.1, wPe G (oa 10) (oa 11) (oa 12) o.2.2.2.2.1, wAu G (oa 13) (oa 14) (oa 15) (oa 16) (oa 17) (oa 18) (oa 19) o.2.2.2.2.2, [(qh0, .inr (11, [.ref (va 0), .ref (oa 0), .int q.1, .ref hih0, .ref q_program, .ref q_notice, .int q.2.1, .int q.2.2]))]]) H := hP
    have hD : va_D A (fl [[(hih0, .inr (7, [.int u_5.1, .int u_5.2, .ref hi_rows]))], [((va 0), .inr (10, [.int u_3.1, .int u_3.2.1, .ref (va 1), .ref (va 6), .ref (va 10), .ref (va 13)]))], wDo G (va 1) (va 2) (va 3) (va 4) (va 5) u_3.2.2.1, wEx G (va 6) (va 7) (va 8) (va 9) u_3.2.2.2.1, wPe G (va 10) (va 11) (va 12) u_3.2.2.2.2.1, wAu G (va 13) (va 14) (va 15) (va 16) (va 17) (va 18) (va 19) u_3.2.2.2.2.2, [((oa 0), .inr (10, [.int o.1, .int o.2.1, .ref (oa 1), .ref (oa 6), .ref (oa 10), .ref (oa 13)]))], wDo G (oa 1) (oa 2) (oa 3) (oa 4) (oa 5) o.2.2.1, wEx G (oa 6) (oa 7) (oa 8) (oa 9) o.2.2.2.1, wPe G (oa 10) (oa 11) (oa 12) o.2.2.2.2.1, wAu G (oa 13) (oa 14) (oa 15) (oa 16) (oa 17) (oa 18) (oa 19) o.2.2.2.2.2, [(qh0, .inr (11, [.ref (va 0), .ref (oa 0), .int q.1, .ref hih0, .ref q_program, .ref q_notice, .int q.2.1, .int q.2.2]))]]) := hD
    refine W.eq (g2 := F0 m 36 ls []) rfl ?_
    have hF : f_X9_restore q v o hi = ("", u_3.2.2.2.2.2.1, u_3, u_5) := by subst eu_5; exact hF
    refine lv_aload_n hx hb dX9_restore_36 rfl (lv_at hl 0 rfl) ?_
    refine va_get (D := G.1) (ci := 11) (v := .ref (va 0)) (C := RX9) (T := TX9) (N := 8) hx hb hts uws_X9 hown hK hP 41 rfl rfl 0 (by decide) (hts _ u_311) (fun _ h9 => h9) rfl dX9_restore_37 ?_
    refine va_get (D := G.1) (ci := 10) (v := .ref (va 13)) (C := RX8) (T := TX8) (N := 6) hx hb hts uws_X8 hown hK hP 1 rfl rfl 5 (by decide) (hts _ u_216) (fun _ h9 => h9) rfl dX9_restore_40 ?_
    refine va_get (D := G.1) (ci := 4) (v := .int u_3.2.2.2.2.2.1) (C := RX0) (T := TX0) (N := 7) hx hb hts uws_X0 hown hK hP 14 rfl rfl 0 (by decide) (hts _ u_184) (fun _ h9 => h9) rfl dX9_restore_43 ?_
    have hP := fl_sub (cs := [[(qh0, .inr (11, [.ref (va 0), .ref (oa 0), .int q.1, .ref hih0, .ref q_program, .ref q_notice, .int q.2.1, .int q.2.2]))], [((va 0), .inr (10, [.int u_3.1, .int u_3.2.1, .ref (va 1), .ref (va 6), .ref (va 10), .ref (va 13)]))], wDo G (va 1) (va 2) (va 3) (va 4) (va 5) u_3.2.2.1, wEx G (va 6) (va 7) (va 8) (va 9) u_3.2.2.2.1, wPe G (va 10) (va 11) (va 12) u_3.2.2.2.2.1, wAu G (va 13) (va 14) (va 15) (va 16) (va 17) (va 18) (va 19) u_3.2.2.2.2.2, [((oa 0), .inr (10, [.int o.1, .int o.2.1, .ref (oa 1), .ref (oa 6), .ref (oa 10), .ref (oa 13)]))], wDo G (oa 1) (oa 2) (oa 3) (oa 4) (oa 5) o.2.2.1, wEx G (oa 6) (oa 7) (oa 8) (oa 9) o.2.2.2.1, wPe G (oa 10) (oa 11) (oa 12) o.2.2.2.2.1, wAu G (oa 13) (oa 14) (oa 15) (oa 16) (oa 17) (oa 18) (oa 19) o.2.2.2.2.2, [(hih0, .inr (7, [.int u_5.1, .int u_5.2, .ref hi_rows]))]]) [11, 1, 2, 3, 4, 5, 6, 7, 8, 9, 10, 0] rfl hP
    have hD := fl_subD (cs := [[(qh0, .inr (11, [.ref (va 0), .ref (oa 0), .int q.1, .ref hih0, .ref q_program, .ref q_notice, .int q.2.1, .int q.2.2]))], [((va 0), .inr (10, [.int u_3.1, .int u_3.2.1, .ref (va 1), .ref (va 6), .ref (va 10), .ref (va 13)]))], wDo G (va 1) (va 2) (va 3) (va 4) (va 5) u_3.2.2.1, wEx G (va 6) (va 7) (va 8) (va 9) u_3.2.2.2.1, wPe G (va 10) (va 11) (va 12) u_3.2.2.2.2.1, wAu G (va 13) (va 14) (va 15) (va 16) (va 17) (va 18) (va 19) u_3.2.2.2.2.2, [((oa 0), .inr (10, [.int o.1, .int o.2.1, .ref (oa 1), .ref (oa 6), .ref (oa 10), .ref (oa 13)]))], wDo G (oa 1) (oa 2) (oa 3) (oa 4) (oa 5) o.2.2.1, wEx G (oa 6) (oa 7) (oa 8) (oa 9) o.2.2.2.1, wPe G (oa 10) (oa 11) (oa 12) o.2.2.2.2.1, wAu G (oa 13) (oa 14) (oa 15) (oa 16) (oa 17) (oa 18) (oa 19) o.2.2.2.2.2, [(hih0, .inr (7, [.int u_5.1, .int u_5.2, .ref hi_rows]))]]) [11, 1, 2, 3, 4, 5, 6, 7, 8, 9, 10, 0] rfl rfl hD
    exact x_ret (Nat.le_of_ble_eq_true rfl) (Nat.le_of_ble_eq_true rfl) (w_ret (u := ("", u_3.2.2.2.2.2.1, u_3, u_5)) hx hb hr hlk rfl hS rfl ⟨hF.symm, ⟨congrArg Prod.fst hF, trivial⟩⟩ hP hD (Nat.le_refl _) (Nat.le_refl _) dX9_restore_46)
  · have hF := hF.trans (if_pos c_1)
    exact xr_throwSW (A := A) (own := RX9) (cls := "java/lang/IllegalStateException") (text := "no snapshot") (j := 32) hlf ⟨hx, hb, hml, hown, hts⟩ hST hlk hxt (by decide +kernel) u_536 u_86 (by decide +kernel) at_X9_162 ot_X9_162_158 hl.1 dX9_restore_7 dX9_restore_10 dX9_restore_11 dX9_restore_14 dX9_restore_17 ⟨Nat.le_of_ble_eq_true rfl, Nat.le_of_ble_eq_true rfl⟩ ⟨Nat.le_of_ble_eq_true rfl, Nat.le_of_ble_eq_true rfl⟩ ⟨(congrArg Prod.fst hF).symm, by decide⟩ (Nat.le_of_ble_eq_true rfl) (Nat.le_of_ble_eq_true rfl)
theorem dX9_noticeAt_0 : decode cX9_noticeAt 0 = .ok (.iload_n 1, 1) := by decide +kernel
theorem dX9_noticeAt_1 : decode cX9_noticeAt 1 = .ok (.ifCond .lt 14, 3) := by decide +kernel
theorem dX9_noticeAt_15 : decode cX9_noticeAt 15 = .ok (.new 292, 3) := by decide +kernel
theorem dX9_noticeAt_18 : decode cX9_noticeAt 18 = .ok (.dup, 1) := by decide +kernel
theorem dX9_noticeAt_19 : decode cX9_noticeAt 19 = .ok (.ldc_w 294, 3) := by decide +kernel
theorem dX9_noticeAt_22 : decode cX9_noticeAt 22 = .ok (.invokespecial 296, 3) := by decide +kernel
theorem dX9_noticeAt_25 : decode cX9_noticeAt 25 = .ok (.athrow, 1) := by decide +kernel
theorem dX9_noticeAt_4 : decode cX9_noticeAt 4 = .ok (.iload_n 1, 1) := by decide +kernel
theorem dX9_noticeAt_5 : decode cX9_noticeAt 5 = .ok (.aload_n 0, 1) := by decide +kernel
theorem dX9_noticeAt_6 : decode cX9_noticeAt 6 = .ok (.getfield 40, 3) := by decide +kernel
theorem u_316 : Cond.fieldLink RX9 40 "MoonlitDoors" "notice" "Ljava/lang/StringBuilder;" ∈ UW := uw 316 (by decide +kernel) rfl
theorem dX9_noticeAt_9 : decode cX9_noticeAt 9 = .ok (.invokevirtual 289, 3) := by decide +kernel
theorem u_1494 : Cond.methodLink RX9 289 yJ4_length_8abf5 ∈ UW := uw 1494 (by decide +kernel) rfl
theorem g_X9_289 : GoodIn UW (wsV RX9 289 RJ4 yJ4_length_8abf5 (wsU yJ4_length_8abf5 cJ4_length_8abf5 1 (some .int))) := gV u_1494 u_1382 u_2158 u_74 u_1383
theorem dX9_noticeAt_12 : decode cX9_noticeAt 12 = .ok (.if_icmp .lt 14, 3) := by decide +kernel
theorem dX9_noticeAt_26 : decode cX9_noticeAt 26 = .ok (.aload_n 0, 1) := by decide +kernel
theorem dX9_noticeAt_27 : decode cX9_noticeAt 27 = .ok (.getfield 40, 3) := by decide +kernel
theorem dX9_noticeAt_30 : decode cX9_noticeAt 30 = .ok (.iload_n 1, 1) := by decide +kernel
theorem dX9_noticeAt_31 : decode cX9_noticeAt 31 = .ok (.invokevirtual 297, 3) := by decide +kernel
theorem u_1503 : Cond.methodLink RX9 297 yJ4_charAt_5068e ∈ UW := uw 1503 (by decide +kernel) rfl
theorem g_X9_297 : GoodIn UW (wsV RX9 297 RJ4 yJ4_charAt_5068e (wsU yJ4_charAt_5068e cJ4_charAt_5068e 2 (some .char))) := gV u_1503 u_1504 u_1505 u_74 u_1506
theorem dX9_noticeAt_34 : decode cX9_noticeAt 34 = .ok (.ireturn, 1) := by decide +kernel
def f_X9_noticeAt (q : McV) (nb : SbV) (x : Int32) : String × Int32 := (if x < (0 : Int32) then ("java/lang/IndexOutOfBoundsException", 0) else (if x < (f_J4_length_8abf5 nb) then ("", (f_J4_charAt_5068e nb x)) else ("java/lang/IndexOutOfBoundsException", 0)))
def ok_X9_noticeAt (q : McV) (nb : SbV) (x : Int32) : Prop := (if x < (0 : Int32) then True else (if x < (f_J4_length_8abf5 nb) then (ok_J4_charAt_5068e nb x ∧ True) else True))
set_option maxHeartbeats 4000000 in
set_option maxRecDepth 100000 in
theorem c_X9_noticeAt (l : Launch) (hlf : l.stackTraces = false) (G : GG) (qh0 : Nat) (q_state : Nat) (q_snapshot : Nat) (q_history : Nat) (q_program : Nat) (nbh0 : Nat) (nbh1 : Nat) (q : McV) (nb : SbV) (x : Int32) (hok : ok_X9_noticeAt q nb x) : xrMet l yX9_noticeAt cX9_noticeAt 2 (some .char) 8 1 6 G (fl [[(qh0, .inr (11, [.ref q_state, .ref q_snapshot, .int q.1, .ref q_history, .ref q_program, .ref nbh0, .int q.2.1, .int q.2.2]))], [(nbh0, .inr (1, [.ref nbh1, .int (0 : Int32), .int nb.2.2.1, .int nb.2.2.2]))], [(nbh1, .inl (G.2.1 2, nb.1, .inl nb.2.1))]]) [.ref qh0, .int x] (some (.int ((f_X9_noticeAt q nb x).2))) ((f_X9_noticeAt q nb x).1 = "" ∧ narrow .char (.int ((f_X9_noticeAt q nb x).2)) = .int ((f_X9_noticeAt q nb x).2)) (fun E => E = (f_X9_noticeAt q nb x).1 ∧ E ≠ "") := by
  refine xr_start (by decide +kernel) (Nat.le_of_ble_eq_true rfl) ?_
  intro p e s m below meth c hx hb hr hml hts hown hlk hxt hP hK hST ls hl
  have hS : va_S (fun _ => False) s.heap s.heap [] := va_S.rf
  have hown : s.vm.findClass RX9 = some m.cls := hown
  have hl : lv_has ls 2 [(0, .ref qh0), (1, .int x)] := hl
  have hF : f_X9_noticeAt q nb x = (if x < (0 : Int32) then ("java/lang/IndexOutOfBoundsException", 0) else (if x < (f_J4_length_8abf5 nb) then ("", (f_J4_charAt_5068e nb x)) else ("java/lang/IndexOutOfBoundsException", 0))) := rfl
  have hok : (if x < (0 : Int32) then True else (if x < (f_J4_length_8abf5 nb) then (ok_J4_charAt_5068e nb x ∧ True) else True)) := hok
  refine lv_iload_n hx hb dX9_noticeAt_0 rfl (lv_at hl 1 rfl) ?_
  refine lv_if_lt (tgt := 15) hx hb dX9_noticeAt_1 (by decide) (fun c_1 => ?_) (fun c_1 => ?_)
  · have hF := hF.trans (if_pos c_1)
    have hok := Eq.mp (if_pos c_1) hok
    exact xr_throwSW (A := (fun _ => False)) (own := RX9) (cls := "java/lang/IndexOutOfBoundsException") (text := "no such character") (j := 27) hlf ⟨hx, hb, hml, hown, hts⟩ hST hlk hxt (by decide +kernel) u_428 u_83 (by decide +kernel) at_X9_296 ot_X9_296_292 hl.1 dX9_noticeAt_15 dX9_noticeAt_18 dX9_noticeAt_19 dX9_noticeAt_22 dX9_noticeAt_25 ⟨Nat.le_of_ble_eq_true rfl, Nat.le_of_ble_eq_true rfl⟩ ⟨Nat.le_of_ble_eq_true rfl, Nat.le_of_ble_eq_true rfl⟩ ⟨(congrArg Prod.fst hF).symm, by decide⟩ (Nat.le_of_ble_eq_true rfl) (Nat.le_of_ble_eq_true rfl)
  · have hF := hF.trans (if_neg c_1)
    have hok := Eq.mp (if_neg c_1) hok
    refine lv_iload_n hx hb dX9_noticeAt_4 rfl (lv_at hl 1 rfl) ?_
    refine lv_aload_n hx hb dX9_noticeAt_5 rfl (lv_at hl 0 rfl) ?_
    refine va_get (D := G.1) (ci := 11) (v := .ref nbh0) (C := RX9) (T := TX9) (N := 8) hx hb hts uws_X9 hown hK hP 0 rfl rfl 5 (by decide) (hts _ u_316) (fun _ h9 => h9) rfl dX9_noticeAt_6 ?_
    refine r_V (own := RX9) (v := (some (.int (f_J4_length_8abf5 nb)))) (st1 := [.int (f_J4_length_8abf5 nb), .int x]) (As := []) (rest := [.int x]) (c_J4_length_8abf5 l G nbh0 nbh1 nb) ⟨hx, hb, hml, hown, hts⟩ g_X9_289 hdv_J4_length_8abf5 hK hST hS hP [1, 2] rfl (k0 := 0) rfl rfl rfl ⟨Nat.le_of_ble_eq_true rfl, Nat.le_of_ble_eq_true rfl⟩ ⟨Nat.le_of_ble_eq_true rfl, Nat.le_of_ble_eq_true rfl⟩ rfl hl.1 rfl (Nat.le_of_ble_eq_true rfl) dX9_noticeAt_9 rfl (fun b_2 => ?_)
    refine lv_icmp_lt (tgt := 26) hx hb dX9_noticeAt_12 (by decide) (fun c_3 => ?_) (fun c_3 => ?_)
    · have hF := hF.trans (if_pos c_3)
      have hok := Eq.mp (if_pos c_3) hok
      refine lv_aload_n hx hb dX9_noticeAt_26 rfl (lv_at hl 0 rfl) ?_
      refine va_get (D := G.1) (ci := 11) (v := .ref nbh0) (C := RX9) (T := TX9) (N := 8) hx hb hts uws_X9 hown hK hP 0 rfl rfl 5 (by decide) (hts _ u_316) (fun _ h9 => h9) rfl dX9_noticeAt_27 ?_
      refine lv_iload_n hx hb dX9_noticeAt_30 rfl (lv_at hl 1 rfl) ?_
      have k_4 := hok.1
      have hok := hok.2
      refine r_V (own := RX9) (v := (some (.int (f_J4_charAt_5068e nb x)))) (st1 := [.int (f_J4_charAt_5068e nb x)]) (As := [.int x]) (rest := []) (c_J4_charAt_5068e l G nbh0 nbh1 nb x k_4) ⟨hx, hb, hml, hown, hts⟩ g_X9_297 hdv_J4_charAt_5068e hK hST hS hP [1, 2] rfl (k0 := 0) rfl rfl rfl ⟨Nat.le_of_ble_eq_true rfl, Nat.le_of_ble_eq_true rfl⟩ ⟨Nat.le_of_ble_eq_true rfl, Nat.le_of_ble_eq_true rfl⟩ rfl hl.1 rfl (Nat.le_of_ble_eq_true rfl) dX9_noticeAt_31 rfl (fun b_5 => ?_)
      exact x_retI hx hb hr hlk b_5 (by rw [hF]) ⟨congrArg Prod.fst hF, (by rw [hF]; exact (b_5 : narrow .char (.int (f_J4_charAt_5068e nb x)) = .int (f_J4_charAt_5068e nb x)))⟩ (Nat.le_of_ble_eq_true rfl) (Nat.le_of_ble_eq_true rfl) dX9_noticeAt_34
    · have hF := hF.trans (if_neg c_3)
      have hok := Eq.mp (if_neg c_3) hok
      exact xr_throwSW (A := (fun _ => False)) (own := RX9) (cls := "java/lang/IndexOutOfBoundsException") (text := "no such character") (j := 27) hlf ⟨hx, hb, hml, hown, hts⟩ hST hlk hxt (by decide +kernel) u_428 u_83 (by decide +kernel) at_X9_296 ot_X9_296_292 hl.1 dX9_noticeAt_15 dX9_noticeAt_18 dX9_noticeAt_19 dX9_noticeAt_22 dX9_noticeAt_25 ⟨Nat.le_of_ble_eq_true rfl, Nat.le_of_ble_eq_true rfl⟩ ⟨Nat.le_of_ble_eq_true rfl, Nat.le_of_ble_eq_true rfl⟩ ⟨(congrArg Prod.fst hF).symm, by decide⟩ (Nat.le_of_ble_eq_true rfl) (Nat.le_of_ble_eq_true rfl)
theorem dX9_writeNotice_0 : decode cX9_writeNotice 0 = .ok (.aload_n 0, 1) := by decide +kernel
theorem dX9_writeNotice_1 : decode cX9_writeNotice 1 = .ok (.iload_n 1, 1) := by decide +kernel
theorem dX9_writeNotice_2 : decode cX9_writeNotice 2 = .ok (.invokevirtual 73, 3) := by decide +kernel
theorem dX9_writeNotice_5 : decode cX9_writeNotice 5 = .ok (.aload_n 0, 1) := by decide +kernel
theorem dX9_writeNotice_6 : decode cX9_writeNotice 6 = .ok (.getfield 40, 3) := by decide +kernel
theorem dX9_writeNotice_9 : decode cX9_writeNotice 9 = .ok (.iconst 0, 1) := by decide +kernel
theorem dX9_writeNotice_10 : decode cX9_writeNotice 10 = .ok (.invokevirtual 276, 3) := by decide +kernel
theorem u_1203 : Cond.methodLink RX9 276 yJ4_setLength_d00df ∈ UW := uw 1203 (by decide +kernel) rfl
theorem g_X9_276 : GoodIn UW (wsV RX9 276 RJ4 yJ4_setLength_d00df (wsU yJ4_setLength_d00df cJ4_setLength_d00df 2 none)) := gV u_1203 u_1204 u_1205 u_74 u_1206
theorem dX9_writeNotice_13 : decode cX9_writeNotice 13 = .ok (.aload_n 0, 1) := by decide +kernel
theorem dX9_writeNotice_14 : decode cX9_writeNotice 14 = .ok (.getfield 40, 3) := by decide +kernel
theorem dX9_writeNotice_17 : decode cX9_writeNotice 17 = .ok (.bipush 100, 2) := by decide +kernel
theorem dX9_writeNotice_19 : decode cX9_writeNotice 19 = .ok (.invokevirtual 279, 3) := by decide +kernel
theorem u_1458 : Cond.methodLink RX9 279 yJ4_append_cf468 ∈ UW := uw 1458 (by decide +kernel) rfl
theorem g_X9_279 : GoodIn UW (wsV RX9 279 RJ4 yJ4_append_cf468 (wsU yJ4_append_cf468 cJ4_append_cf468 2 (some (.object "java/lang/StringBuilder")))) := gV u_1458 u_1459 u_1460 u_74 u_1461
theorem dX9_writeNotice_22 : decode cX9_writeNotice 22 = .ok (.iload_n 1, 1) := by decide +kernel
theorem dX9_writeNotice_23 : decode cX9_writeNotice 23 = .ok (.invokevirtual 282, 3) := by decide +kernel
theorem u_1480 : Cond.methodLink RX9 282 yJ4_append_bf812 ∈ UW := uw 1480 (by decide +kernel) rfl
theorem g_X9_282 : GoodIn UW (wsV RX9 282 RJ4 yJ4_append_bf812 (wsU yJ4_append_bf812 cJ4_append_bf812 2 (some (.object "java/lang/StringBuilder")))) := gV u_1480 u_1337 u_1338 u_74 u_1339
theorem dX9_writeNotice_26 : decode cX9_writeNotice 26 = .ok (.bipush 32, 2) := by decide +kernel
theorem dX9_writeNotice_28 : decode cX9_writeNotice 28 = .ok (.invokevirtual 279, 3) := by decide +kernel
theorem dX9_writeNotice_31 : decode cX9_writeNotice 31 = .ok (.pop, 1) := by decide +kernel
theorem dX9_writeNotice_32 : decode cX9_writeNotice 32 = .ok (.aload_n 0, 1) := by decide +kernel
theorem dX9_writeNotice_33 : decode cX9_writeNotice 33 = .ok (.getfield 10, 3) := by decide +kernel
theorem dX9_writeNotice_36 : decode cX9_writeNotice 36 = .ok (.getfield 63, 3) := by decide +kernel
theorem dX9_writeNotice_39 : decode cX9_writeNotice 39 = .ok (.iload_n 1, 1) := by decide +kernel
theorem dX9_writeNotice_40 : decode cX9_writeNotice 40 = .ok (.aload_n 0, 1) := by decide +kernel
theorem dX9_writeNotice_41 : decode cX9_writeNotice 41 = .ok (.getfield 40, 3) := by decide +kernel
theorem dX9_writeNotice_44 : decode cX9_writeNotice 44 = .ok (.invokevirtual 285, 3) := by decide +kernel
theorem u_1481 : Cond.methodLink RX9 285 yX2_describe ∈ UW := uw 1481 (by decide +kernel) rfl
theorem u_1482 : Cond.instanceMethod yX2_describe ∈ UW := uw 1482 (by decide +kernel) rfl
theorem u_1483 : Cond.selects RX2 yX2_describe yX2_describe ∈ UW := uw 1483 (by decide +kernel) rfl
theorem u_1484 : Cond.code yX2_describe cX2_describe 3 none ∈ UW := uw 1484 (by decide +kernel) rfl
theorem g_X9_285 : GoodIn UW (wsV RX9 285 RX2 yX2_describe (wsU yX2_describe cX2_describe 3 none)) := gV u_1481 u_1482 u_1483 u_67 u_1484
theorem hdv_X2_describe : yX2_describe.cls = RX2 ∧ yX2_describe.cls ≠ "java/lang/invoke/MethodHandle" ∧ yX2_describe.cls ≠ "java/lang/invoke/VarHandle" ∧ (parseMethodDescriptor yX2_describe.desc).map (fun d => d.parameters.length) = some 2 := by decide +kernel
theorem dX9_writeNotice_47 : decode cX9_writeNotice 47 = .ok (.aload_n 0, 1) := by decide +kernel
theorem dX9_writeNotice_48 : decode cX9_writeNotice 48 = .ok (.getfield 10, 3) := by decide +kernel
theorem dX9_writeNotice_51 : decode cX9_writeNotice 51 = .ok (.iload_n 1, 1) := by decide +kernel
theorem dX9_writeNotice_52 : decode cX9_writeNotice 52 = .ok (.aload_n 0, 1) := by decide +kernel
theorem dX9_writeNotice_53 : decode cX9_writeNotice 53 = .ok (.getfield 10, 3) := by decide +kernel
theorem dX9_writeNotice_56 : decode cX9_writeNotice 56 = .ok (.getfield 225, 3) := by decide +kernel
theorem dX9_writeNotice_59 : decode cX9_writeNotice 59 = .ok (.invokevirtual 228, 3) := by decide +kernel
theorem dX9_writeNotice_62 : decode cX9_writeNotice 62 = .ok (.ifCond .eq 13, 3) := by decide +kernel
theorem dX9_writeNotice_75 : decode cX9_writeNotice 75 = .ok (.aload_n 0, 1) := by decide +kernel
theorem dX9_writeNotice_76 : decode cX9_writeNotice 76 = .ok (.getfield 40, 3) := by decide +kernel
theorem dX9_writeNotice_79 : decode cX9_writeNotice 79 = .ok (.invokevirtual 289, 3) := by decide +kernel
theorem dX9_writeNotice_82 : decode cX9_writeNotice 82 = .ok (.ireturn, 1) := by decide +kernel
theorem dX9_writeNotice_65 : decode cX9_writeNotice 65 = .ok (.aload_n 0, 1) := by decide +kernel
theorem dX9_writeNotice_66 : decode cX9_writeNotice 66 = .ok (.getfield 40, 3) := by decide +kernel
theorem dX9_writeNotice_69 : decode cX9_writeNotice 69 = .ok (.bipush 33, 2) := by decide +kernel
theorem dX9_writeNotice_71 : decode cX9_writeNotice 71 = .ok (.invokevirtual 279, 3) := by decide +kernel
theorem dX9_writeNotice_74 : decode cX9_writeNotice 74 = .ok (.pop, 1) := by decide +kernel
def f_X9_writeNotice (q : McV) (v : StV) (nb : SbV) (dr : Int32) : String × Int32 × SbV := (if (f_X9_requireDoor q v dr) = "" then (let u_4 : SbV := (f_J4_setLength_d00df nb (0 : Int32)); (let u_7 : SbV := (f_J4_append_cf468 u_4 (100 : Int32)); (let u_10 : SbV := (f_J4_append_bf812 u_7 dr); (let u_13 : SbV := (f_J4_append_cf468 u_10 (32 : Int32)); (let u_16 : SbV := (f_X2_describe v.2.2.1 dr u_13); (if (f_X8_isUnlockedAt v dr v.1) = (0 : Int32) then ("", (f_J4_length_8abf5 u_16), u_16) else (let u_22 : SbV := (f_J4_append_cf468 u_16 (33 : Int32)); ("", (f_J4_length_8abf5 u_22), u_22)))))))) else ((f_X9_requireDoor q v dr), 0, nb))
def ok_X9_writeNotice (q : McV) (v : StV) (nb : SbV) (dr : Int32) : Prop := (if (f_X9_requireDoor q v dr) = "" then (ok_J4_setLength_d00df nb (0 : Int32) ∧ (let u_4 : SbV := (f_J4_setLength_d00df nb (0 : Int32)); (ok_J4_append_cf468 u_4 (100 : Int32) ∧ (let u_7 : SbV := (f_J4_append_cf468 u_4 (100 : Int32)); (ok_J4_append_bf812 u_7 dr ∧ (let u_10 : SbV := (f_J4_append_bf812 u_7 dr); (ok_J4_append_cf468 u_10 (32 : Int32) ∧ (let u_13 : SbV := (f_J4_append_cf468 u_10 (32 : Int32)); (ok_X2_describe v.2.2.1 dr u_13 ∧ (let u_16 : SbV := (f_X2_describe v.2.2.1 dr u_13); (if (f_X8_isUnlockedAt v dr v.1) = (0 : Int32) then True else (ok_J4_append_cf468 u_16 (33 : Int32) ∧ True)))))))))))) else True)
set_option maxHeartbeats 4000000 in
set_option maxRecDepth 100000 in
set_option linter.constructorNameAsVariable false in
theorem c_X9_writeNotice (l : Launch) (hlf : l.stackTraces = false) (G : GG) (qh0 : Nat) (q_snapshot : Nat) (q_history : Nat) (q_program : Nat) (va : Nat → Nat) (nbh0 : Nat) (nbh1 : Nat) (sz : Nat) (q : McV) (v : StV) (nb : SbV) (dr : Int32) (hok : ok_X9_writeNotice q v nb dr) : xwMet l yX9_writeNotice cX9_writeNotice 2 (some .int) 9 22 4206 G (fl [[(qh0, .inr (11, [.ref (va 0), .ref q_snapshot, .int q.1, .ref q_history, .ref q_program, .ref nbh0, .int q.2.1, .int q.2.2]))], [((va 0), .inr (10, [.int v.1, .int v.2.1, .ref (va 1), .ref (va 6), .ref (va 10), .ref (va 13)]))], wDo G (va 1) (va 2) (va 3) (va 4) (va 5) v.2.2.1, wEx G (va 6) (va 7) (va 8) (va 9) v.2.2.2.1, wPe G (va 10) (va 11) (va 12) v.2.2.2.2.1, wAu G (va 13) (va 14) (va 15) (va 16) (va 17) (va 18) (va 19) v.2.2.2.2.2, [(nbh0, .inr (1, [.ref nbh1, .int (0 : Int32), .int nb.2.2.1, .int nb.2.2.2]))], [(nbh1, .inl (G.2.1 2, nb.1, .inl nb.2.1))]]) [.ref qh0, .int dr] sz (fun u : Nat × String × Int32 × SbV => some (.int u.2.2.1)) (fun u : Nat × String × Int32 × SbV => u.2 = f_X9_writeNotice q v nb dr ∧ (f_X9_writeNotice q v nb dr).1 = "" ∧ True) (fun u : Nat × String × Int32 × SbV => fl [[(qh0, .inr (11, [.ref (va 0), .ref q_snapshot, .int q.1, .ref q_history, .ref q_program, .ref nbh0, .int q.2.1, .int q.2.2]))], [((va 0), .inr (10, [.int v.1, .int v.2.1, .ref (va 1), .ref (va 6), .ref (va 10), .ref (va 13)]))], wDo G (va 1) (va 2) (va 3) (va 4) (va 5) v.2.2.1, wEx G (va 6) (va 7) (va 8) (va 9) v.2.2.2.1, wPe G (va 10) (va 11) (va 12) v.2.2.2.2.1, wAu G (va 13) (va 14) (va 15) (va 16) (va 17) (va 18) (va 19) v.2.2.2.2.2, [(nbh0, .inr (1, [.ref u.1, .int (0 : Int32), .int u.2.2.2.2.2.1, .int u.2.2.2.2.2.2]))], [(u.1, .inl (G.2.1 2, u.2.2.2.1, .inl u.2.2.2.2.1))]]) (fun E => E = (f_X9_writeNotice q v nb dr).1 ∧ E ≠ "") := by
  refine xw_start (by decide +kernel) (Nat.le_of_ble_eq_true rfl) ?_
  intro p e s m below meth c A hx hb hr hml hts hown hlk hxt hP hD hA hK hST ls hl
  have hS : va_S A s.heap s.heap [] := va_S.rf
  have hown : s.vm.findClass RX9 = some m.cls := hown
  have hl : lv_has ls 2 [(0, .ref qh0), (1, .int dr)] := hl
  have hF : f_X9_writeNotice q v nb dr = (if (f_X9_requireDoor q v dr) = "" then (let u_4 : SbV := (f_J4_setLength_d00df nb (0 : Int32)); (let u_7 : SbV := (f_J4_append_cf468 u_4 (100 : Int32)); (let u_10 : SbV := (f_J4_append_bf812 u_7 dr); (let u_13 : SbV := (f_J4_append_cf468 u_10 (32 : Int32)); (let u_16 : SbV := (f_X2_describe v.2.2.1 dr u_13); (if (f_X8_isUnlockedAt v dr v.1) = (0 : Int32) then ("", (f_J4_length_8abf5 u_16), u_16) else (let u_22 : SbV := (f_J4_append_cf468 u_16 (33 : Int32)); ("", (f_J4_length_8abf5 u_22), u_22)))))))) else ((f_X9_requireDoor q v dr), 0, nb)) := rfl
  have hok : (if (f_X9_requireDoor q v dr) = "" then (ok_J4_setLength_d00df nb (0 : Int32) ∧ (let u_4 : SbV := (f_J4_setLength_d00df nb (0 : Int32)); (ok_J4_append_cf468 u_4 (100 : Int32) ∧ (let u_7 : SbV := (f_J4_append_cf468 u_4 (100 : Int32)); (ok_J4_append_bf812 u_7 dr ∧ (let u_10 : SbV := (f_J4_append_bf812 u_7 dr); (ok_J4_append_cf468 u_10 (32 : Int32) ∧ (let u_13 : SbV := (f_J4_append_cf468 u_10 (32 : Int32)); (ok_X2_describe v.2.2.1 dr u_13 ∧ (let u_16 : SbV := (f_X2_describe v.2.2.1 dr u_13); (if (f_X8_isUnlockedAt v dr v.1) = (0 : Int32) then True else (ok_J4_append_cf468 u_16 (33 : Int32) ∧ True)))))))))))) else True) := hok
  refine lv_aload_n hx hb dX9_writeNotice_0 rfl (lv_at hl 0 rfl) ?_
  refine lv_iload_n hx hb dX9_writeNotice_1 rfl (lv_at hl 1 rfl) ?_
  refine xr_V (own := RX9) (v := none) (st1 := []) (As := [.int dr]) (rest := []) (c_X9_requireDoor l hlf G qh0 q_snapshot q_history q_program nbh0 va q v dr) ⟨hx, hb, hml, hown, hts⟩ g_X9_73 hdv_X9_requireDoor hK hST hS hP [0, 1, 2, 3, 4, 5, 6, 7, 8, 9, 10, 11, 12, 13, 14, 15, 16, 17, 18, 19, 20] rfl (k0 := 0) rfl rfl rfl ⟨Nat.le_of_ble_eq_true rfl, Nat.le_of_ble_eq_true rfl⟩ ⟨Nat.le_of_ble_eq_true rfl, Nat.le_of_ble_eq_true rfl⟩ rfl hl.1 rfl (Nat.le_of_ble_eq_true rfl) dX9_writeNotice_2 rfl (fun E ce q9 H1 hE h1 h2 h3 h4 h5 => xr_out hxt hlk h3 h4 h5 h1 h2 rfl ⟨hE.1.trans (congrArg Prod.fst (hF.trans (if_neg (fun e => hE.2 (hE.1.trans e))))).symm, hE.2⟩ (Nat.le_of_ble_eq_true rfl) (Nat.le_of_ble_eq_true rfl)) (fun b_1 => ?_)
  have hE := b_1.1
  have b_1 := b_1.2
  have hF := hF.trans (if_pos hE)
  have hok := Eq.mp (if_pos hE) hok
  refine lv_aload_n hx hb dX9_writeNotice_5 rfl (lv_at hl 0 rfl) ?_
  refine va_get (D := G.1) (ci := 11) (v := .ref nbh0) (C := RX9) (T := TX9) (N := 8) hx hb hts uws_X9 hown hK hP 0 rfl rfl 5 (by decide) (hts _ u_316) (fun _ h9 => h9) rfl dX9_writeNotice_6 ?_
  refine lv_iconst (v := (0 : Int32)) hx hb dX9_writeNotice_9 (by decide) ?_
  have k_2 := hok.1
  have hok := hok.2
  refine w_V (own := RX9) (cs := [[(nbh0, .inr (1, [.ref nbh1, .int (0 : Int32), .int nb.2.2.1, .int nb.2.2.2]))], [(nbh1, .inl (G.2.1 2, nb.1, .inl nb.2.1))]]) (rs := [[(qh0, .inr (11, [.ref (va 0), .ref q_snapshot, .int q.1, .ref q_history, .ref q_program, .ref nbh0, .int q.2.1, .int q.2.2]))], [((va 0), .inr (10, [.int v.1, .int v.2.1, .ref (va 1), .ref (va 6), .ref (va 10), .ref (va 13)]))], wDo G (va 1) (va 2) (va 3) (va 4) (va 5) v.2.2.1, wEx G (va 6) (va 7) (va 8) (va 9) v.2.2.2.1, wPe G (va 10) (va 11) (va 12) v.2.2.2.2.1, wAu G (va 13) (va 14) (va 15) (va 16) (va 17) (va 18) (va 19) v.2.2.2.2.2]) (As := [.int (0 : Int32)]) (rest := []) (c_J4_setLength_d00df l G nbh0 nbh1 s.heap.size nb (0 : Int32) k_2) ⟨hx, hb, hml, hown, hts⟩ g_X9_276 hdv_J4_setLength_d00df hK hST hS hP hD hA [6, 7] [0, 1, 2, 3, 4, 5] rfl rfl rfl (k0 := 0) rfl rfl rfl ⟨Nat.le_of_ble_eq_true rfl, Nat.le_of_ble_eq_true rfl⟩ ⟨Nat.le_of_ble_eq_true rfl, Nat.le_of_ble_eq_true rfl⟩ rfl hl.1 rfl (Nat.le_of_ble_eq_true rfl) dX9_writeNotice_10 (fun u_4 H locs huu hP hD hS => ?_)
  obtain ⟨qu_4, u_4⟩ := u_4
  have eu_4 : u_4 = (f_J4_setLength_d00df nb (0 : Int32)) := huu
  have hP : va_P G.1 vwCl (fl [[(nbh0, .inr (1, [.ref qu_4, .int (0 : Int32), .int u_4.2.2.1, .int u_4.2.2.2]))], [(qu_4, .inl (G.2.1 2, u_4.1, .inl u_4.2.1))], [(qh0, .inr (11, [.ref (va 0), .ref q_snapshot, .int q.1, .ref q_history, .ref q_program, .ref nbh0, .int q.2.1, .int q.2.2]))], [((va 0), .inr (10, [.int v.1, .int v.2.1, .ref (va 1), .ref (va 6), .ref (va 10), .ref (va 13)]))], wDo G (va 1) (va 2) (va 3) (va 4) (va 5) v.2.2.1, wEx G (va 6) (va 7) (va 8) (va 9) v.2.2.2.1, wPe G (va 10) (va 11) (va 12) v.2.2.2.2.1, wAu G (va 13) (va 14) (va 15) (va 16) (va 17) (va 18) (va 19) v.2.2.2.2.2]) H := hP
  have hD : va_D A (fl [[(nbh0, .inr (1, [.ref qu_4, .int (0 : Int32), .int u_4.2.2.1, .int u_4.2.2.2]))], [(qu_4, .inl (G.2.1 2, u_4.1, .inl u_4.2.1))], [(qh0, .inr (11, [.ref (va 0), .ref q_snapshot, .int q.1, .ref q_history, .ref q_program, .ref nbh0, .int q.2.1, .int q.2.2]))], [((va 0), .inr (10, [.int v.1, .int v.2.1, .ref (va 1), .ref (va 6), .ref (va 10), .ref (va 13)]))], wDo G (va 1) (va 2) (va 3) (va 4) (va 5) v.2.2.1, wEx G (va 6) (va 7) (va 8) (va 9) v.2.2.2.1, wPe G (va 10) (va 11) (va 12) v.2.2.2.2.1, wAu G (va 13) (va 14) (va 15) (va 16) (va 17) (va 18) (va 19) v.2.2.2.2.2]) := hD
  refine W.eq (g2 := F0 m 13 ls []) rfl ?_
  have hF : f_X9_writeNotice q v nb dr = (let u_7 : SbV := (f_J4_append_cf468 u_4 (100 : Int32)); (let u_10 : SbV := (f_J4_append_bf812 u_7 dr); (let u_13 : SbV := (f_J4_append_cf468 u_10 (32 : Int32)); (let u_16 : SbV := (f_X2_describe v.2.2.1 dr u_13); (if (f_X8_isUnlockedAt v dr v.1) = (0 : Int32) then ("", (f_J4_length_8abf5 u_16), u_16) else (let u_22 : SbV := (f_J4_append_cf468 u_16 (33 : Int32)); ("", (f_J4_length_8abf5 u_22), u_22))))))) := by subst eu_4; exact hF
  have hok : (ok_J4_append_cf468 u_4 (100 : Int32) ∧ (let u_7 : SbV := (f_J4_append_cf468 u_4 (100 : Int32)); (ok_J4_append_bf812 u_7 dr ∧ (let u_10 : SbV := (f_J4_append_bf812 u_7 dr); (ok_J4_append_cf468 u_10 (32 : Int32) ∧ (let u_13 : SbV := (f_J4_append_cf468 u_10 (32 : Int32)); (ok_X2_describe v.2.2.1 dr u_13 ∧ (let u_16 : SbV := (f_X2_describe v.2.2.1 dr u_13); (if (f_X8_isUnlockedAt v dr v.1) = (0 : Int32) then True else (ok_J4_append_cf468 u_16 (33 : Int32) ∧ True)))))))))) := by subst eu_4; exact hok
  refine lv_aload_n hx hb dX9_writeNotice_13 rfl (lv_at hl 0 rfl) ?_
  refine va_get (D := G.1) (ci := 11) (v := .ref nbh0) (C := RX9) (T := TX9) (N := 8) hx hb hts uws_X9 hown hK hP 2 rfl rfl 5 (by decide) (hts _ u_316) (fun _ h9 => h9) rfl dX9_writeNotice_14 ?_
  refine lv_bipush (v := (100 : Int32)) hx hb dX9_writeNotice_17 (by decide) ?_
  have k_5 := hok.1
  have hok := hok.2
  refine w_V (own := RX9) (cs := [[(nbh0, .inr (1, [.ref qu_4, .int (0 : Int32), .int u_4.2.2.1, .int u_4.2.2.2]))], [(qu_4, .inl (G.2.1 2, u_4.1, .inl u_4.2.1))]]) (rs := [[(qh0, .inr (11, [.ref (va 0), .ref q_snapshot, .int q.1, .ref q_history, .ref q_program, .ref nbh0, .int q.2.1, .int q.2.2]))], [((va 0), .inr (10, [.int v.1, .int v.2.1, .ref (va 1), .ref (va 6), .ref (va 10), .ref (va 13)]))], wDo G (va 1) (va 2) (va 3) (va 4) (va 5) v.2.2.1, wEx G (va 6) (va 7) (va 8) (va 9) v.2.2.2.1, wPe G (va 10) (va 11) (va 12) v.2.2.2.2.1, wAu G (va 13) (va 14) (va 15) (va 16) (va 17) (va 18) (va 19) v.2.2.2.2.2]) (As := [.int (100 : Int32)]) (rest := []) (c_J4_append_cf468 l G nbh0 qu_4 H.size u_4 (100 : Int32) k_5) ⟨hx, hb, hml, hown, hts⟩ g_X9_279 hdv_J4_append_cf468 hK hST hS hP hD hA [0, 1] [2, 3, 4, 5, 6, 7] rfl rfl rfl (k0 := 0) rfl rfl rfl ⟨Nat.le_of_ble_eq_true rfl, Nat.le_of_ble_eq_true rfl⟩ ⟨Nat.le_of_ble_eq_true rfl, Nat.le_of_ble_eq_true rfl⟩ rfl hl.1 rfl (Nat.le_of_ble_eq_true rfl) dX9_writeNotice_19 (fun u_7 H locs huu hP hD hS => ?_)
  obtain ⟨qu_7, u_7⟩ := u_7
  have eu_7 : u_7 = (f_J4_append_cf468 u_4 (100 : Int32)) := huu
  have hP : va_P G.1 vwCl (fl [[(nbh0, .inr (1, [.ref qu_7, .int (0 : Int32), .int u_7.2.2.1, .int u_7.2.2.2]))], [(qu_7, .inl (G.2.1 2, u_7.1, .inl u_7.2.1))], [(qh0, .inr (11, [.ref (va 0), .ref q_snapshot, .int q.1, .ref q_history, .ref q_program, .ref nbh0, .int q.2.1, .int q.2.2]))], [((va 0), .inr (10, [.int v.1, .int v.2.1, .ref (va 1), .ref (va 6), .ref (va 10), .ref (va 13)]))], wDo G (va 1) (va 2) (va 3) (va 4) (va 5) v.2.2.1, wEx G (va 6) (va 7) (va 8) (va 9) v.2.2.2.1, wPe G (va 10) (va 11) (va 12) v.2.2.2.2.1, wAu G (va 13) (va 14) (va 15) (va 16) (va 17) (va 18) (va 19) v.2.2.2.2.2]) H := hP
  have hD : va_D A (fl [[(nbh0, .inr (1, [.ref qu_7, .int (0 : Int32), .int u_7.2.2.1, .int u_7.2.2.2]))], [(qu_7, .inl (G.2.1 2, u_7.1, .inl u_7.2.1))], [(qh0, .inr (11, [.ref (va 0), .ref q_snapshot, .int q.1, .ref q_history, .ref q_program, .ref nbh0, .int q.2.1, .int q.2.2]))], [((va 0), .inr (10, [.int v.1, .int v.2.1, .ref (va 1), .ref (va 6), .ref (va 10), .ref (va 13)]))], wDo G (va 1) (va 2) (va 3) (va 4) (va 5) v.2.2.1, wEx G (va 6) (va 7) (va 8) (va 9) v.2.2.2.1, wPe G (va 10) (va 11) (va 12) v.2.2.2.2.1, wAu G (va 13) (va 14) (va 15) (va 16) (va 17) (va 18) (va 19) v.2.2.2.2.2]) := hD
  refine W.eq (g2 := F0 m 22 ls [.ref nbh0]) rfl ?_
  have hF : f_X9_writeNotice q v nb dr = (let u_10 : SbV := (f_J4_append_bf812 u_7 dr); (let u_13 : SbV := (f_J4_append_cf468 u_10 (32 : Int32)); (let u_16 : SbV := (f_X2_describe v.2.2.1 dr u_13); (if (f_X8_isUnlockedAt v dr v.1) = (0 : Int32) then ("", (f_J4_length_8abf5 u_16), u_16) else (let u_22 : SbV := (f_J4_append_cf468 u_16 (33 : Int32)); ("", (f_J4_length_8abf5 u_22), u_22)))))) := by subst eu_7; exact hF
  have hok : (ok_J4_append_bf812 u_7 dr ∧ (let u_10 : SbV := (f_J4_append_bf812 u_7 dr); (ok_J4_append_cf468 u_10 (32 : Int32) ∧ (let u_13 : SbV := (f_J4_append_cf468 u_10 (32 : Int32)); (ok_X2_describe v.2.2.1 dr u_13 ∧ (let u_16 : SbV := (f_X2_describe v.2.2.1 dr u_13); (if (f_X8_isUnlockedAt v dr v.1) = (0 : Int32) then True else (ok_J4_append_cf468 u_16 (33 : Int32) ∧ True)))))))) := by subst eu_7; exact hok
  refine lv_iload_n hx hb dX9_writeNotice_22 rfl (lv_at hl 1 rfl) ?_
  have k_8 := hok.1
  have hok := hok.2
  refine w_V (own := RX9) (cs := [[(nbh0, .inr (1, [.ref qu_7, .int (0 : Int32), .int u_7.2.2.1, .int u_7.2.2.2]))], [(qu_7, .inl (G.2.1 2, u_7.1, .inl u_7.2.1))]]) (rs := [[(qh0, .inr (11, [.ref (va 0), .ref q_snapshot, .int q.1, .ref q_history, .ref q_program, .ref nbh0, .int q.2.1, .int q.2.2]))], [((va 0), .inr (10, [.int v.1, .int v.2.1, .ref (va 1), .ref (va 6), .ref (va 10), .ref (va 13)]))], wDo G (va 1) (va 2) (va 3) (va 4) (va 5) v.2.2.1, wEx G (va 6) (va 7) (va 8) (va 9) v.2.2.2.1, wPe G (va 10) (va 11) (va 12) v.2.2.2.2.1, wAu G (va 13) (va 14) (va 15) (va 16) (va 17) (va 18) (va 19) v.2.2.2.2.2]) (As := [.int dr]) (rest := []) (c_J4_append_bf812 l G nbh0 qu_7 H.size u_7 dr k_8) ⟨hx, hb, hml, hown, hts⟩ g_X9_282 hdv_J4_append_bf812 hK hST hS hP hD hA [0, 1] [2, 3, 4, 5, 6, 7] rfl rfl rfl (k0 := 0) rfl rfl rfl ⟨Nat.le_of_ble_eq_true rfl, Nat.le_of_ble_eq_true rfl⟩ ⟨Nat.le_of_ble_eq_true rfl, Nat.le_of_ble_eq_true rfl⟩ rfl hl.1 rfl (Nat.le_of_ble_eq_true rfl) dX9_writeNotice_23 (fun u_10 H locs huu hP hD hS => ?_)
  obtain ⟨qu_10, u_10⟩ := u_10
  have eu_10 : u_10 = (f_J4_append_bf812 u_7 dr) := huu
  have hP : va_P G.1 vwCl (fl [[(nbh0, .inr (1, [.ref qu_10, .int (0 : Int32), .int u_10.2.2.1, .int u_10.2.2.2]))], [(qu_10, .inl (G.2.1 2, u_10.1, .inl u_10.2.1))], [(qh0, .inr (11, [.ref (va 0), .ref q_snapshot, .int q.1, .ref q_history, .ref q_program, .ref nbh0, .int q.2.1, .int q.2.2]))], [((va 0), .inr (10, [.int v.1, .int v.2.1, .ref (va 1), .ref (va 6), .ref (va 10), .ref (va 13)]))], wDo G (va 1) (va 2) (va 3) (va 4) (va 5) v.2.2.1, wEx G (va 6) (va 7) (va 8) (va 9) v.2.2.2.1, wPe G (va 10) (va 11) (va 12) v.2.2.2.2.1, wAu G (va 13) (va 14) (va 15) (va 16) (va 17) (va 18) (va 19) v.2.2.2.2.2]) H := hP
  have hD : va_D A (fl [[(nbh0, .inr (1, [.ref qu_10, .int (0 : Int32), .int u_10.2.2.1, .int u_10.2.2.2]))], [(qu_10, .inl (G.2.1 2, u_10.1, .inl u_10.2.1))], [(qh0, .inr (11, [.ref (va 0), .ref q_snapshot, .int q.1, .ref q_history, .ref q_program, .ref nbh0, .int q.2.1, .int q.2.2]))], [((va 0), .inr (10, [.int v.1, .int v.2.1, .ref (va 1), .ref (va 6), .ref (va 10), .ref (va 13)]))], wDo G (va 1) (va 2) (va 3) (va 4) (va 5) v.2.2.1, wEx G (va 6) (va 7) (va 8) (va 9) v.2.2.2.1, wPe G (va 10) (va 11) (va 12) v.2.2.2.2.1, wAu G (va 13) (va 14) (va 15) (va 16) (va 17) (va 18) (va 19) v.2.2.2.2.2]) := hD
  refine W.eq (g2 := F0 m 26 ls [.ref nbh0]) rfl ?_
  have hF : f_X9_writeNotice q v nb dr = (let u_13 : SbV := (f_J4_append_cf468 u_10 (32 : Int32)); (let u_16 : SbV := (f_X2_describe v.2.2.1 dr u_13); (if (f_X8_isUnlockedAt v dr v.1) = (0 : Int32) then ("", (f_J4_length_8abf5 u_16), u_16) else (let u_22 : SbV := (f_J4_append_cf468 u_16 (33 : Int32)); ("", (f_J4_length_8abf5 u_22), u_22))))) := by subst eu_10; exact hF
  have hok : (ok_J4_append_cf468 u_10 (32 : Int32) ∧ (let u_13 : SbV := (f_J4_append_cf468 u_10 (32 : Int32)); (ok_X2_describe v.2.2.1 dr u_13 ∧ (let u_16 : SbV := (f_X2_describe v.2.2.1 dr u_13); (if (f_X8_isUnlockedAt v dr v.1) = (0 : Int32) then True else (ok_J4_append_cf468 u_16 (33 : Int32) ∧ True)))))) := by subst eu_10; exact hok
  refine lv_bipush (v := (32 : Int32)) hx hb dX9_writeNotice_26 (by decide) ?_
  have k_11 := hok.1
  have hok := hok.2
  refine w_V (own := RX9) (cs := [[(nbh0, .inr (1, [.ref qu_10, .int (0 : Int32), .int u_10.2.2.1, .int u_10.2.2.2]))], [(qu_10, .inl (G.2.1 2, u_10.1, .inl u_10.2.1))]]) (rs := [[(qh0, .inr (11, [.ref (va 0), .ref q_snapshot, .int q.1, .ref q_history, .ref q_program, .ref nbh0, .int q.2.1, .int q.2.2]))], [((va 0), .inr (10, [.int v.1, .int v.2.1, .ref (va 1), .ref (va 6), .ref (va 10), .ref (va 13)]))], wDo G (va 1) (va 2) (va 3) (va 4) (va 5) v.2.2.1, wEx G (va 6) (va 7) (va 8) (va 9) v.2.2.2.1, wPe G (va 10) (va 11) (va 12) v.2.2.2.2.1, wAu G (va 13) (va 14) (va 15) (va 16) (va 17) (va 18) (va 19) v.2.2.2.2.2]) (As := [.int (32 : Int32)]) (rest := []) (c_J4_append_cf468 l G nbh0 qu_10 H.size u_10 (32 : Int32) k_11) ⟨hx, hb, hml, hown, hts⟩ g_X9_279 hdv_J4_append_cf468 hK hST hS hP hD hA [0, 1] [2, 3, 4, 5, 6, 7] rfl rfl rfl (k0 := 0) rfl rfl rfl ⟨Nat.le_of_ble_eq_true rfl, Nat.le_of_ble_eq_true rfl⟩ ⟨Nat.le_of_ble_eq_true rfl, Nat.le_of_ble_eq_true rfl⟩ rfl hl.1 rfl (Nat.le_of_ble_eq_true rfl) dX9_writeNotice_28 (fun u_13 H locs huu hP hD hS => ?_)
  obtain ⟨qu_13, u_13⟩ := u_13
  have eu_13 : u_13 = (f_J4_append_cf468 u_10 (32 : Int32)) := huu
  have hP : va_P G.1 vwCl (fl [[(nbh0, .inr (1, [.ref qu_13, .int (0 : Int32), .int u_13.2.2.1, .int u_13.2.2.2]))], [(qu_13, .inl (G.2.1 2, u_13.1, .inl u_13.2.1))], [(qh0, .inr (11, [.ref (va 0), .ref q_snapshot, .int q.1, .ref q_history, .ref q_program, .ref nbh0, .int q.2.1, .int q.2.2]))], [((va 0), .inr (10, [.int v.1, .int v.2.1, .ref (va 1), .ref (va 6), .ref (va 10), .ref (va 13)]))], wDo G (va 1) (va 2) (va 3) (va 4) (va 5) v.2.2.1, wEx G (va 6) (va 7) (va 8) (va 9) v.2.2.2.1, wPe G (va 10) (va 11) (va 12) v.2.2.2.2.1, wAu G (va 13) (va 14) (va 15) (va 16) (va 17) (va 18) (va 19) v.2.2.2.2.2]) H := hP
  have hD : va_D A (fl [[(nbh0, .inr (1, [.ref qu_13, .int (0 : Int32), .int u_13.2.2.1, .int u_13.2.2.2]))], [(qu_13, .inl (G.2.1 2, u_13.1, .inl u_13.2.1))], [(qh0, .inr (11, [.ref (va 0), .ref q_snapshot, .int q.1, .ref q_history, .ref q_program, .ref nbh0, .int q.2.1, .int q.2.2]))], [((va 0), .inr (10, [.int v.1, .int v.2.1, .ref (va 1), .ref (va 6), .ref (va 10), .ref (va 13)]))], wDo G (va 1) (va 2) (va 3) (va 4) (va 5) v.2.2.1, wEx G (va 6) (va 7) (va 8) (va 9) v.2.2.2.1, wPe G (va 10) (va 11) (va 12) v.2.2.2.2.1, wAu G (va 13) (va 14) (va 15) (va 16) (va 17) (va 18) (va 19) v.2.2.2.2.2]) := hD
  refine W.eq (g2 := F0 m 31 ls [.ref nbh0]) rfl ?_
  have hF : f_X9_writeNotice q v nb dr = (let u_16 : SbV := (f_X2_describe v.2.2.1 dr u_13); (if (f_X8_isUnlockedAt v dr v.1) = (0 : Int32) then ("", (f_J4_length_8abf5 u_16), u_16) else (let u_22 : SbV := (f_J4_append_cf468 u_16 (33 : Int32)); ("", (f_J4_length_8abf5 u_22), u_22)))) := by subst eu_13; exact hF
  have hok : (ok_X2_describe v.2.2.1 dr u_13 ∧ (let u_16 : SbV := (f_X2_describe v.2.2.1 dr u_13); (if (f_X8_isUnlockedAt v dr v.1) = (0 : Int32) then True else (ok_J4_append_cf468 u_16 (33 : Int32) ∧ True)))) := by subst eu_13; exact hok
  refine lv_pop hx hb dX9_writeNotice_31 rfl ?_
  refine lv_aload_n hx hb dX9_writeNotice_32 rfl (lv_at hl 0 rfl) ?_
  refine va_get (D := G.1) (ci := 11) (v := .ref (va 0)) (C := RX9) (T := TX9) (N := 8) hx hb hts uws_X9 hown hK hP 2 rfl rfl 0 (by decide) (hts _ u_311) (fun _ h9 => h9) rfl dX9_writeNotice_33 ?_
  refine va_get (D := G.1) (ci := 10) (v := .ref (va 1)) (C := RX8) (T := TX8) (N := 6) hx hb hts uws_X8 hown hK hP 3 rfl rfl 2 (by decide) (hts _ u_210) (fun _ h9 => h9) rfl dX9_writeNotice_36 ?_
  refine lv_iload_n hx hb dX9_writeNotice_39 rfl (lv_at hl 1 rfl) ?_
  refine lv_aload_n hx hb dX9_writeNotice_40 rfl (lv_at hl 0 rfl) ?_
  refine va_get (D := G.1) (ci := 11) (v := .ref nbh0) (C := RX9) (T := TX9) (N := 8) hx hb hts uws_X9 hown hK hP 2 rfl rfl 5 (by decide) (hts _ u_316) (fun _ h9 => h9) rfl dX9_writeNotice_41 ?_
  have k_14 := hok.1
  have hok := hok.2
  refine w_V (own := RX9) (cs := [wDo G (va 1) (va 2) (va 3) (va 4) (va 5) v.2.2.1, [(nbh0, .inr (1, [.ref qu_13, .int (0 : Int32), .int u_13.2.2.1, .int u_13.2.2.2]))], [(qu_13, .inl (G.2.1 2, u_13.1, .inl u_13.2.1))]]) (rs := [[(qh0, .inr (11, [.ref (va 0), .ref q_snapshot, .int q.1, .ref q_history, .ref q_program, .ref nbh0, .int q.2.1, .int q.2.2]))], [((va 0), .inr (10, [.int v.1, .int v.2.1, .ref (va 1), .ref (va 6), .ref (va 10), .ref (va 13)]))], wEx G (va 6) (va 7) (va 8) (va 9) v.2.2.2.1, wPe G (va 10) (va 11) (va 12) v.2.2.2.2.1, wAu G (va 13) (va 14) (va 15) (va 16) (va 17) (va 18) (va 19) v.2.2.2.2.2]) (As := [.int dr, .ref nbh0]) (rest := []) (c_X2_describe l G (va 1) (va 2) (va 3) (va 4) (va 5) nbh0 qu_13 H.size v.2.2.1 dr u_13 k_14) ⟨hx, hb, hml, hown, hts⟩ g_X9_285 hdv_X2_describe hK hST hS hP hD hA [4, 0, 1] [2, 3, 5, 6, 7] rfl rfl rfl (k0 := 0) rfl rfl rfl ⟨Nat.le_of_ble_eq_true rfl, Nat.le_of_ble_eq_true rfl⟩ ⟨Nat.le_of_ble_eq_true rfl, Nat.le_of_ble_eq_true rfl⟩ rfl hl.1 rfl (Nat.le_of_ble_eq_true rfl) dX9_writeNotice_44 (fun u_16 H locs huu hP hD hS => ?_)
  obtain ⟨qu_16, u_16⟩ := u_16
  have eu_16 : u_16 = (f_X2_describe v.2.2.1 dr u_13) := huu
  have hP : va_P G.1 vwCl (fl [wDo G (va 1) (va 2) (va 3) (va 4) (va 5) v.2.2.1, [(nbh0, .inr (1, [.ref qu_16, .int (0 : Int32), .int u_16.2.2.1, .int u_16.2.2.2]))], [(qu_16, .inl (G.2.1 2, u_16.1, .inl u_16.2.1))], [(qh0, .inr (11, [.ref (va 0), .ref q_snapshot, .int q.1, .ref q_history, .ref q_program, .ref nbh0, .int q.2.1, .int q.2.2]))], [((va 0), .inr (10, [.int v.1, .int v.2.1, .ref (va 1), .ref (va 6), .ref (va 10), .ref (va 13)]))], wEx G (va 6) (va 7) (va 8) (va 9) v.2.2.2.1, wPe G (va 10) (va 11) (va 12) v.2.2.2.2.1, wAu G (va 13) (va 14) (va 15) (va 16) (va 17) (va 18) (va 19) v.2.2.2.2.2]) H := hP
  have hD : va_D A (fl [wDo G (va 1) (va 2) (va 3) (va 4) (va 5) v.2.2.1, [(nbh0, .inr (1, [.ref qu_16, .int (0 : Int32), .int u_16.2.2.1, .int u_16.2.2.2]))], [(qu_16, .inl (G.2.1 2, u_16.1, .inl u_16.2.1))], [(qh0, .inr (11, [.ref (va 0), .ref q_snapshot, .int q.1, .ref q_history, .ref q_program, .ref nbh0, .int q.2.1, .int q.2.2]))], [((va 0), .inr (10, [.int v.1, .int v.2.1, .ref (va 1), .ref (va 6), .ref (va 10), .ref (va 13)]))], wEx G (va 6) (va 7) (va 8) (va 9) v.2.2.2.1, wPe G (va 10) (va 11) (va 12) v.2.2.2.2.1, wAu G (va 13) (va 14) (va 15) (va 16) (va 17) (va 18) (va 19) v.2.2.2.2.2]) := hD
  refine W.eq (g2 := F0 m 47 ls []) rfl ?_
  have hF : f_X9_writeNotice q v nb dr = (if (f_X8_isUnlockedAt v dr v.1) = (0 : Int32) then ("", (f_J4_length_8abf5 u_16), u_16) else (let u_22 : SbV := (f_J4_append_cf468 u_16 (33 : Int32)); ("", (f_J4_length_8abf5 u_22), u_22))) := by subst eu_16; exact hF
  have hok : (if (f_X8_isUnlockedAt v dr v.1) = (0 : Int32) then True else (ok_J4_append_cf468 u_16 (33 : Int32) ∧ True)) := by subst eu_16; exact hok
  refine lv_aload_n hx hb dX9_writeNotice_47 rfl (lv_at hl 0 rfl) ?_
  refine va_get (D := G.1) (ci := 11) (v := .ref (va 0)) (C := RX9) (T := TX9) (N := 8) hx hb hts uws_X9 hown hK hP 7 rfl rfl 0 (by decide) (hts _ u_311) (fun _ h9 => h9) rfl dX9_writeNotice_48 ?_
  refine lv_iload_n hx hb dX9_writeNotice_51 rfl (lv_at hl 1 rfl) ?_
  refine lv_aload_n hx hb dX9_writeNotice_52 rfl (lv_at hl 0 rfl) ?_
  refine va_get (D := G.1) (ci := 11) (v := .ref (va 0)) (C := RX9) (T := TX9) (N := 8) hx hb hts uws_X9 hown hK hP 7 rfl rfl 0 (by decide) (hts _ u_311) (fun _ h9 => h9) rfl dX9_writeNotice_53 ?_
  refine va_get (D := G.1) (ci := 10) (v := .int v.1) (C := RX8) (T := TX8) (N := 6) hx hb hts uws_X8 hown hK hP 8 rfl rfl 0 (by decide) (hts _ u_207) (fun _ h9 => h9) rfl dX9_writeNotice_56 ?_
  refine r_V (own := RX9) (v := (some (.int (f_X8_isUnlockedAt v dr v.1)))) (st1 := [.int (f_X8_isUnlockedAt v dr v.1)]) (As := [.int dr, .int v.1]) (rest := []) (c_X8_isUnlockedAt l G va v dr v.1) ⟨hx, hb, hml, hown, hts⟩ g_X9_228 hdv_X8_isUnlockedAt hK hST hS hP [8, 0, 1, 2, 3, 4, 9, 10, 11, 12, 13, 14, 15, 16, 17, 18, 19, 20, 21, 22] rfl (k0 := 0) rfl rfl rfl ⟨Nat.le_of_ble_eq_true rfl, Nat.le_of_ble_eq_true rfl⟩ ⟨Nat.le_of_ble_eq_true rfl, Nat.le_of_ble_eq_true rfl⟩ rfl hl.1 rfl (Nat.le_of_ble_eq_true rfl) dX9_writeNotice_59 rfl (fun b_17 => ?_)
  refine lv_if_eq (tgt := 75) hx hb dX9_writeNotice_62 (by decide) (fun c_18 => ?_) (fun c_18 => ?_)
  · have hF := hF.trans (if_pos c_18)
    have hok := Eq.mp (if_pos c_18) hok
    refine lv_aload_n hx hb dX9_writeNotice_75 rfl (lv_at hl 0 rfl) ?_
    refine va_get (D := G.1) (ci := 11) (v := .ref nbh0) (C := RX9) (T := TX9) (N := 8) hx hb hts uws_X9 hown hK hP 7 rfl rfl 5 (by decide) (hts _ u_316) (fun _ h9 => h9) rfl dX9_writeNotice_76 ?_
    refine r_V (own := RX9) (v := (some (.int (f_J4_length_8abf5 u_16)))) (st1 := [.int (f_J4_length_8abf5 u_16)]) (As := []) (rest := []) (c_J4_length_8abf5 l G nbh0 qu_16 u_16) ⟨hx, hb, hml, hown, hts⟩ g_X9_289 hdv_J4_length_8abf5 hK hST hS hP [5, 6] rfl (k0 := 0) rfl rfl rfl ⟨Nat.le_of_ble_eq_true rfl, Nat.le_of_ble_eq_true rfl⟩ ⟨Nat.le_of_ble_eq_true rfl, Nat.le_of_ble_eq_true rfl⟩ rfl hl.1 rfl (Nat.le_of_ble_eq_true rfl) dX9_writeNotice_79 rfl (fun b_19 => ?_)
    have hP := fl_sub (cs := [[(qh0, .inr (11, [.ref (va 0), .ref q_snapshot, .int q.1, .ref q_history, .ref q_program, .ref nbh0, .int q.2.1, .int q.2.2]))], [((va 0), .inr (10, [.int v.1, .int v.2.1, .ref (va 1), .ref (va 6), .ref (va 10), .ref (va 13)]))], wDo G (va 1) (va 2) (va 3) (va 4) (va 5) v.2.2.1, wEx G (va 6) (va 7) (va 8) (va 9) v.2.2.2.1, wPe G (va 10) (va 11) (va 12) v.2.2.2.2.1, wAu G (va 13) (va 14) (va 15) (va 16) (va 17) (va 18) (va 19) v.2.2.2.2.2, [(nbh0, .inr (1, [.ref qu_16, .int (0 : Int32), .int u_16.2.2.1, .int u_16.2.2.2]))], [(qu_16, .inl (G.2.1 2, u_16.1, .inl u_16.2.1))]]) [3, 4, 0, 5, 6, 7, 1, 2] rfl hP
    have hD := fl_subD (cs := [[(qh0, .inr (11, [.ref (va 0), .ref q_snapshot, .int q.1, .ref q_history, .ref q_program, .ref nbh0, .int q.2.1, .int q.2.2]))], [((va 0), .inr (10, [.int v.1, .int v.2.1, .ref (va 1), .ref (va 6), .ref (va 10), .ref (va 13)]))], wDo G (va 1) (va 2) (va 3) (va 4) (va 5) v.2.2.1, wEx G (va 6) (va 7) (va 8) (va 9) v.2.2.2.1, wPe G (va 10) (va 11) (va 12) v.2.2.2.2.1, wAu G (va 13) (va 14) (va 15) (va 16) (va 17) (va 18) (va 19) v.2.2.2.2.2, [(nbh0, .inr (1, [.ref qu_16, .int (0 : Int32), .int u_16.2.2.1, .int u_16.2.2.2]))], [(qu_16, .inl (G.2.1 2, u_16.1, .inl u_16.2.1))]]) [3, 4, 0, 5, 6, 7, 1, 2] rfl rfl hD
    exact x_ret (Nat.le_of_ble_eq_true rfl) (Nat.le_of_ble_eq_true rfl) (w_ret (u := (qu_16, ("", (f_J4_length_8abf5 u_16), u_16))) hx hb hr hlk rfl hS rfl ⟨hF.symm, ⟨congrArg Prod.fst hF, trivial⟩⟩ hP hD (Nat.le_refl _) (Nat.le_refl _) dX9_writeNotice_82)
  · have hF := hF.trans (if_neg c_18)
    have hok := Eq.mp (if_neg c_18) hok
    refine lv_aload_n hx hb dX9_writeNotice_65 rfl (lv_at hl 0 rfl) ?_
    refine va_get (D := G.1) (ci := 11) (v := .ref nbh0) (C := RX9) (T := TX9) (N := 8) hx hb hts uws_X9 hown hK hP 7 rfl rfl 5 (by decide) (hts _ u_316) (fun _ h9 => h9) rfl dX9_writeNotice_66 ?_
    refine lv_bipush (v := (33 : Int32)) hx hb dX9_writeNotice_69 (by decide) ?_
    have k_20 := hok.1
    have hok := hok.2
    refine w_V (own := RX9) (cs := [[(nbh0, .inr (1, [.ref qu_16, .int (0 : Int32), .int u_16.2.2.1, .int u_16.2.2.2]))], [(qu_16, .inl (G.2.1 2, u_16.1, .inl u_16.2.1))]]) (rs := [wDo G (va 1) (va 2) (va 3) (va 4) (va 5) v.2.2.1, [(qh0, .inr (11, [.ref (va 0), .ref q_snapshot, .int q.1, .ref q_history, .ref q_program, .ref nbh0, .int q.2.1, .int q.2.2]))], [((va 0), .inr (10, [.int v.1, .int v.2.1, .ref (va 1), .ref (va 6), .ref (va 10), .ref (va 13)]))], wEx G (va 6) (va 7) (va 8) (va 9) v.2.2.2.1, wPe G (va 10) (va 11) (va 12) v.2.2.2.2.1, wAu G (va 13) (va 14) (va 15) (va 16) (va 17) (va 18) (va 19) v.2.2.2.2.2]) (As := [.int (33 : Int32)]) (rest := []) (c_J4_append_cf468 l G nbh0 qu_16 H.size u_16 (33 : Int32) k_20) ⟨hx, hb, hml, hown, hts⟩ g_X9_279 hdv_J4_append_cf468 hK hST hS hP hD hA [1, 2] [0, 3, 4, 5, 6, 7] rfl rfl rfl (k0 := 0) rfl rfl rfl ⟨Nat.le_of_ble_eq_true rfl, Nat.le_of_ble_eq_true rfl⟩ ⟨Nat.le_of_ble_eq_true rfl, Nat.le_of_ble_eq_true rfl⟩ rfl hl.1 rfl (Nat.le_of_ble_eq_true rfl) dX9_writeNotice_71 (fun u_22 H locs huu hP hD hS => ?_)
    obtain ⟨qu_22, u_22⟩ := u_22
    have eu_22 : u_22 = (f_J4_append_cf468 u_16 (33 : Int32)) := huu
    have hP : va_P G.1 vwCl (fl [[(nbh0, .inr (1, [.ref qu_22, .int (0 : Int32), .int u_22.2.2.1, .int u_22.2.2.2]))], [(qu_22, .inl (G.2.1 2, u_22.1, .inl u_22.2.1))], wDo G (va 1) (va 2) (va 3) (va 4) (va 5) v.2.2.1, [(qh0, .inr (11, [.ref (va 0), .ref q_snapshot, .int q.1, .ref q_history, .ref q_program, .ref nbh0, .int q.2.1, .int q.2.2]))], [((va 0), .inr (10, [.int v.1, .int v.2.1, .ref (va 1), .ref (va 6), .ref (va 10), .ref (va 13)]))], wEx G (va 6) (va 7) (va 8) (va 9) v.2.2.2.1, wPe G (va 10) (va 11) (va 12) v.2.2.2.2.1, wAu G (va 13) (va 14) (va 15) (va 16) (va 17) (va 18) (va 19) v.2.2.2.2.2]) H := hP
    have hD : va_D A (fl [[(nbh0, .inr (1, [.ref qu_22, .int (0 : Int32), .int u_22.2.2.1, .int u_22.2.2.2]))], [(qu_22, .inl (G.2.1 2, u_22.1, .inl u_22.2.1))], wDo G (va 1) (va 2) (va 3) (va 4) (va 5) v.2.2.1, [(qh0, .inr (11, [.ref (va 0), .ref q_snapshot, .int q.1, .ref q_history, .ref q_program, .ref nbh0, .int q.2.1, .int q.2.2]))], [((va 0), .inr (10, [.int v.1, .int v.2.1, .ref (va 1), .ref (va 6), .ref (va 10), .ref (va 13)]))], wEx G (va 6) (va 7) (va 8) (va 9) v.2.2.2.1, wPe G (va 10) (va 11) (va 12) v.2.2.2.2.1, wAu G (va 13) (va 14) (va 15) (va 16) (va 17) (va 18) (va 19) v.2.2.2.2.2]) := hD
    refine W.eq (g2 := F0 m 74 ls [.ref nbh0]) rfl ?_
    have hF : f_X9_writeNotice q v nb dr = ("", (f_J4_length_8abf5 u_22), u_22) := by subst eu_22; exact hF
    refine lv_pop hx hb dX9_writeNotice_74 rfl ?_
    refine lv_aload_n hx hb dX9_writeNotice_75 rfl (lv_at hl 0 rfl) ?_
    refine va_get (D := G.1) (ci := 11) (v := .ref nbh0) (C := RX9) (T := TX9) (N := 8) hx hb hts uws_X9 hown hK hP 7 rfl rfl 5 (by decide) (hts _ u_316) (fun _ h9 => h9) rfl dX9_writeNotice_76 ?_
    refine r_V (own := RX9) (v := (some (.int (f_J4_length_8abf5 u_22)))) (st1 := [.int (f_J4_length_8abf5 u_22)]) (As := []) (rest := []) (c_J4_length_8abf5 l G nbh0 qu_22 u_22) ⟨hx, hb, hml, hown, hts⟩ g_X9_289 hdv_J4_length_8abf5 hK hST hS hP [0, 1] rfl (k0 := 0) rfl rfl rfl ⟨Nat.le_of_ble_eq_true rfl, Nat.le_of_ble_eq_true rfl⟩ ⟨Nat.le_of_ble_eq_true rfl, Nat.le_of_ble_eq_true rfl⟩ rfl hl.1 rfl (Nat.le_of_ble_eq_true rfl) dX9_writeNotice_79 rfl (fun b_23 => ?_)
    have hP := fl_sub (cs := [[(qh0, .inr (11, [.ref (va 0), .ref q_snapshot, .int q.1, .ref q_history, .ref q_program, .ref nbh0, .int q.2.1, .int q.2.2]))], [((va 0), .inr (10, [.int v.1, .int v.2.1, .ref (va 1), .ref (va 6), .ref (va 10), .ref (va 13)]))], wDo G (va 1) (va 2) (va 3) (va 4) (va 5) v.2.2.1, wEx G (va 6) (va 7) (va 8) (va 9) v.2.2.2.1, wPe G (va 10) (va 11) (va 12) v.2.2.2.2.1, wAu G (va 13) (va 14) (va 15) (va 16) (va 17) (va 18) (va 19) v.2.2.2.2.2, [(nbh0, .inr (1, [.ref qu_22, .int (0 : Int32), .int u_22.2.2.1, .int u_22.2.2.2]))], [(qu_22, .inl (G.2.1 2, u_22.1, .inl u_22.2.1))]]) [3, 4, 2, 5, 6, 7, 0, 1] rfl hP
    have hD := fl_subD (cs := [[(qh0, .inr (11, [.ref (va 0), .ref q_snapshot, .int q.1, .ref q_history, .ref q_program, .ref nbh0, .int q.2.1, .int q.2.2]))], [((va 0), .inr (10, [.int v.1, .int v.2.1, .ref (va 1), .ref (va 6), .ref (va 10), .ref (va 13)]))], wDo G (va 1) (va 2) (va 3) (va 4) (va 5) v.2.2.1, wEx G (va 6) (va 7) (va 8) (va 9) v.2.2.2.1, wPe G (va 10) (va 11) (va 12) v.2.2.2.2.1, wAu G (va 13) (va 14) (va 15) (va 16) (va 17) (va 18) (va 19) v.2.2.2.2.2, [(nbh0, .inr (1, [.ref qu_22, .int (0 : Int32), .int u_22.2.2.1, .int u_22.2.2.2]))], [(qu_22, .inl (G.2.1 2, u_22.1, .inl u_22.2.1))]]) [3, 4, 2, 5, 6, 7, 0, 1] rfl rfl hD
    exact x_ret (Nat.le_of_ble_eq_true rfl) (Nat.le_of_ble_eq_true rfl) (w_ret (u := (qu_22, ("", (f_J4_length_8abf5 u_22), u_22))) hx hb hr hlk rfl hS rfl ⟨hF.symm, ⟨congrArg Prod.fst hF, trivial⟩⟩ hP hD (Nat.le_refl _) (Nat.le_refl _) dX9_writeNotice_82)
theorem dX9_type_0 : decode cX9_type 0 = .ok (.iload_n 1, 1) := by decide +kernel
theorem dX9_type_1 : decode cX9_type 1 = .ok (.bipush 32, 2) := by decide +kernel
theorem dX9_type_3 : decode cX9_type 3 = .ok (.bipush 126, 2) := by decide +kernel
theorem dX9_type_5 : decode cX9_type 5 = .ok (.invokestatic 122, 3) := by decide +kernel
theorem dX9_type_8 : decode cX9_type 8 = .ok (.aload_n 0, 1) := by decide +kernel
theorem dX9_type_9 : decode cX9_type 9 = .ok (.getfield 33, 3) := by decide +kernel
theorem u_315 : Cond.fieldLink RX9 33 "MoonlitDoors" "program" "LMoonlitDoors$Program;" ∈ UW := uw 315 (by decide +kernel) rfl
theorem dX9_type_12 : decode cX9_type 12 = .ok (.invokevirtual 301, 3) := by decide +kernel
theorem u_1520 : Cond.methodLink RX9 301 yX6_length ∈ UW := uw 1520 (by decide +kernel) rfl
theorem u_1521 : Cond.instanceMethod yX6_length ∈ UW := uw 1521 (by decide +kernel) rfl
theorem u_1522 : Cond.selects RX6 yX6_length yX6_length ∈ UW := uw 1522 (by decide +kernel) rfl
theorem u_1523 : Cond.code yX6_length cX6_length 1 (some .int) ∈ UW := uw 1523 (by decide +kernel) rfl
theorem g_X9_301 : GoodIn UW (wsV RX9 301 RX6 yX6_length (wsU yX6_length cX6_length 1 (some .int))) := gV u_1520 u_1521 u_1522 u_72 u_1523
theorem hdv_X6_length : yX6_length.cls = RX6 ∧ yX6_length.cls ≠ "java/lang/invoke/MethodHandle" ∧ yX6_length.cls ≠ "java/lang/invoke/VarHandle" ∧ (parseMethodDescriptor yX6_length.desc).map (fun d => d.parameters.length) = some 0 := by decide +kernel
theorem dX9_type_15 : decode cX9_type 15 = .ok (.bipush 60, 2) := by decide +kernel
theorem dX9_type_17 : decode cX9_type 17 = .ok (.if_icmp .lt 14, 3) := by decide +kernel
theorem dX9_type_31 : decode cX9_type 31 = .ok (.aload_n 0, 1) := by decide +kernel
theorem dX9_type_32 : decode cX9_type 32 = .ok (.getfield 33, 3) := by decide +kernel
theorem dX9_type_35 : decode cX9_type 35 = .ok (.iload_n 1, 1) := by decide +kernel
theorem dX9_type_36 : decode cX9_type 36 = .ok (.invokevirtual 304, 3) := by decide +kernel
theorem u_1526 : Cond.methodLink RX9 304 yX6_append ∈ UW := uw 1526 (by decide +kernel) rfl
theorem u_1527 : Cond.instanceMethod yX6_append ∈ UW := uw 1527 (by decide +kernel) rfl
theorem u_1528 : Cond.selects RX6 yX6_append yX6_append ∈ UW := uw 1528 (by decide +kernel) rfl
theorem u_1529 : Cond.code yX6_append cX6_append 2 (some .int) ∈ UW := uw 1529 (by decide +kernel) rfl
theorem g_X9_304 : GoodIn UW (wsV RX9 304 RX6 yX6_append (wsU yX6_append cX6_append 2 (some .int))) := gV u_1526 u_1527 u_1528 u_72 u_1529
theorem hdv_X6_append : yX6_append.cls = RX6 ∧ yX6_append.cls ≠ "java/lang/invoke/MethodHandle" ∧ yX6_append.cls ≠ "java/lang/invoke/VarHandle" ∧ (parseMethodDescriptor yX6_append.desc).map (fun d => d.parameters.length) = some 1 := by decide +kernel
theorem dX9_type_39 : decode cX9_type 39 = .ok (.ireturn, 1) := by decide +kernel
theorem dX9_type_20 : decode cX9_type 20 = .ok (.new 158, 3) := by decide +kernel
theorem dX9_type_23 : decode cX9_type 23 = .ok (.dup, 1) := by decide +kernel
theorem dX9_type_24 : decode cX9_type 24 = .ok (.ldc_w 302, 3) := by decide +kernel
theorem dX9_type_27 : decode cX9_type 27 = .ok (.invokespecial 162, 3) := by decide +kernel
theorem dX9_type_30 : decode cX9_type 30 = .ok (.athrow, 1) := by decide +kernel
def f_X9_type (q : McV) (pg : PrV) (tb : SbV) (x : Int32) : String × Int32 × SbV := (if (f_X9_requireRange x (32 : Int32) (126 : Int32)) = "" then (if (f_X6_length pg tb) < (60 : Int32) then (let u_6 : Int32 × SbV := (f_X6_append pg tb x); ("", u_6.1, u_6.2)) else ("java/lang/IllegalStateException", 0, tb)) else ((f_X9_requireRange x (32 : Int32) (126 : Int32)), 0, tb))
def ok_X9_type (q : McV) (pg : PrV) (tb : SbV) (x : Int32) : Prop := (if (f_X9_requireRange x (32 : Int32) (126 : Int32)) = "" then (if (f_X6_length pg tb) < (60 : Int32) then (ok_X6_append pg tb x ∧ True) else True) else True)
set_option maxHeartbeats 4000000 in
set_option maxRecDepth 100000 in
theorem c_X9_type (l : Launch) (hlf : l.stackTraces = false) (G : GG) (qh0 : Nat) (q_state : Nat) (q_snapshot : Nat) (q_history : Nat) (q_notice : Nat) (pgh0 : Nat) (tbh0 : Nat) (tbh1 : Nat) (sz : Nat) (q : McV) (pg : PrV) (tb : SbV) (x : Int32) (hok : ok_X9_type q pg tb x) : xwMet l yX9_type cX9_type 2 (some .int) 9 2 206 G (fl [[(qh0, .inr (11, [.ref q_state, .ref q_snapshot, .int q.1, .ref q_history, .ref pgh0, .ref q_notice, .int q.2.1, .int q.2.2]))], [(pgh0, .inr (9, [.int pg.1, .int pg.2.1, .int pg.2.2.1, .int pg.2.2.2, .ref tbh0]))], [(tbh0, .inr (1, [.ref tbh1, .int (0 : Int32), .int tb.2.2.1, .int tb.2.2.2]))], [(tbh1, .inl (G.2.1 2, tb.1, .inl tb.2.1))]]) [.ref qh0, .int x] sz (fun u : Nat × String × Int32 × SbV => some (.int u.2.2.1)) (fun u : Nat × String × Int32 × SbV => u.2 = f_X9_type q pg tb x ∧ (f_X9_type q pg tb x).1 = "" ∧ True) (fun u : Nat × String × Int32 × SbV => fl [[(qh0, .inr (11, [.ref q_state, .ref q_snapshot, .int q.1, .ref q_history, .ref pgh0, .ref q_notice, .int q.2.1, .int q.2.2]))], [(pgh0, .inr (9, [.int pg.1, .int pg.2.1, .int pg.2.2.1, .int pg.2.2.2, .ref tbh0]))], [(tbh0, .inr (1, [.ref u.1, .int (0 : Int32), .int u.2.2.2.2.2.1, .int u.2.2.2.2.2.2]))], [(u.1, .inl (G.2.1 2, u.2.2.2.1, .inl u.2.2.2.2.1))]]) (fun E => E = (f_X9_type q pg tb x).1 ∧ E ≠ "") := by
  refine xw_start (by decide +kernel) (Nat.le_of_ble_eq_true rfl) ?_
  intro p e s m below meth c A hx hb hr hml hts hown hlk hxt hP hD hA hK hST ls hl
  have hS : va_S A s.heap s.heap [] := va_S.rf
  have hown : s.vm.findClass RX9 = some m.cls := hown
  have hl : lv_has ls 2 [(0, .ref qh0), (1, .int x)] := hl
  have hF : f_X9_type q pg tb x = (if (f_X9_requireRange x (32 : Int32) (126 : Int32)) = "" then (if (f_X6_length pg tb) < (60 : Int32) then (let u_6 : Int32 × SbV := (f_X6_append pg tb x); ("", u_6.1, u_6.2)) else ("java/lang/IllegalStateException", 0, tb)) else ((f_X9_requireRange x (32 : Int32) (126 : Int32)), 0, tb)) := rfl
  have hok : (if (f_X9_requireRange x (32 : Int32) (126 : Int32)) = "" then (if (f_X6_length pg tb) < (60 : Int32) then (ok_X6_append pg tb x ∧ True) else True) else True) := hok
  refine lv_iload_n hx hb dX9_type_0 rfl (lv_at hl 1 rfl) ?_
  refine lv_bipush (v := (32 : Int32)) hx hb dX9_type_1 (by decide) ?_
  refine lv_bipush (v := (126 : Int32)) hx hb dX9_type_3 (by decide) ?_
  refine xr_S (own := RX9) (v := none) (st1 := []) (As := [.int x, .int (32 : Int32), .int (126 : Int32)]) (rest := []) (c_X9_requireRange l hlf G x (32 : Int32) (126 : Int32)) ⟨hx, hb, hml, hown, hts⟩ g_X9_122 hds_X9_requireRange hK hST hS hP [] rfl ⟨Nat.le_of_ble_eq_true rfl, Nat.le_of_ble_eq_true rfl⟩ ⟨Nat.le_of_ble_eq_true rfl, Nat.le_of_ble_eq_true rfl⟩ rfl hl.1 rfl (Nat.le_of_ble_eq_true rfl) dX9_type_5 rfl (fun E ce q9 H1 hE h1 h2 h3 h4 h5 => xr_out hxt hlk h3 h4 h5 h1 h2 rfl ⟨hE.1.trans (congrArg Prod.fst (hF.trans (if_neg (fun e => hE.2 (hE.1.trans e))))).symm, hE.2⟩ (Nat.le_of_ble_eq_true rfl) (Nat.le_of_ble_eq_true rfl)) (fun b_1 => ?_)
  have hE := b_1.1
  have b_1 := b_1.2
  have hF := hF.trans (if_pos hE)
  have hok := Eq.mp (if_pos hE) hok
  refine lv_aload_n hx hb dX9_type_8 rfl (lv_at hl 0 rfl) ?_
  refine va_get (D := G.1) (ci := 11) (v := .ref pgh0) (C := RX9) (T := TX9) (N := 8) hx hb hts uws_X9 hown hK hP 0 rfl rfl 4 (by decide) (hts _ u_315) (fun _ h9 => h9) rfl dX9_type_9 ?_
  refine r_V (own := RX9) (v := (some (.int (f_X6_length pg tb)))) (st1 := [.int (f_X6_length pg tb)]) (As := []) (rest := []) (c_X6_length l G pgh0 tbh0 tbh1 pg tb) ⟨hx, hb, hml, hown, hts⟩ g_X9_301 hdv_X6_length hK hST hS hP [1, 2, 3] rfl (k0 := 0) rfl rfl rfl ⟨Nat.le_of_ble_eq_true rfl, Nat.le_of_ble_eq_true rfl⟩ ⟨Nat.le_of_ble_eq_true rfl, Nat.le_of_ble_eq_true rfl⟩ rfl hl.1 rfl (Nat.le_of_ble_eq_true rfl) dX9_type_12 rfl (fun b_2 => ?_)
  refine lv_bipush (v := (60 : Int32)) hx hb dX9_type_15 (by decide) ?_
  refine lv_icmp_lt (tgt := 31) hx hb dX9_type_17 (by decide) (fun c_3 => ?_) (fun c_3 => ?_)
  · have hF := hF.trans (if_pos c_3)
    have hok := Eq.mp (if_pos c_3) hok
    refine lv_aload_n hx hb dX9_type_31 rfl (lv_at hl 0 rfl) ?_
    refine va_get (D := G.1) (ci := 11) (v := .ref pgh0) (C := RX9) (T := TX9) (N := 8) hx hb hts uws_X9 hown hK hP 0 rfl rfl 4 (by decide) (hts _ u_315) (fun _ h9 => h9) rfl dX9_type_32 ?_
    refine lv_iload_n hx hb dX9_type_35 rfl (lv_at hl 1 rfl) ?_
    have k_4 := hok.1
    have hok := hok.2
    refine w_V (own := RX9) (cs := [[(pgh0, .inr (9, [.int pg.1, .int pg.2.1, .int pg.2.2.1, .int pg.2.2.2, .ref tbh0]))], [(tbh0, .inr (1, [.ref tbh1, .int (0 : Int32), .int tb.2.2.1, .int tb.2.2.2]))], [(tbh1, .inl (G.2.1 2, tb.1, .inl tb.2.1))]]) (rs := [[(qh0, .inr (11, [.ref q_state, .ref q_snapshot, .int q.1, .ref q_history, .ref pgh0, .ref q_notice, .int q.2.1, .int q.2.2]))]]) (As := [.int x]) (rest := []) (c_X6_append l G pgh0 tbh0 tbh1 s.heap.size pg tb x k_4) ⟨hx, hb, hml, hown, hts⟩ g_X9_304 hdv_X6_append hK hST hS hP hD hA [1, 2, 3] [0] rfl rfl rfl (k0 := 0) rfl rfl rfl ⟨Nat.le_of_ble_eq_true rfl, Nat.le_of_ble_eq_true rfl⟩ ⟨Nat.le_of_ble_eq_true rfl, Nat.le_of_ble_eq_true rfl⟩ rfl hl.1 rfl (Nat.le_of_ble_eq_true rfl) dX9_type_36 (fun u_6 H locs huu hP hD hS => ?_)
    obtain ⟨qu_6, u_6⟩ := u_6
    have eu_6 : u_6 = (f_X6_append pg tb x) := huu
    have hP : va_P G.1 vwCl (fl [[(pgh0, .inr (9, [.int pg.1, .int pg.2.1, .int pg.2.2.1, .int pg.2.2.2, .ref tbh0]))], [(tbh0, .inr (1, [.ref qu_6, .int (0 : Int32), .int u_6.2.2.2.1, .int u_6.2.2.2.2]))], [(qu_6, .inl (G.2.1 2, u_6.2.1, .inl u_6.2.2.1))], [(qh0, .inr (11, [.ref q_state, .ref q_snapshot, .int q.1, .ref q_history, .ref pgh0, .ref q_notice, .int q.2.1, .int q.2.2]))]]) H := hP
    have hD : va_D A (fl [[(pgh0, .inr (9, [.int pg.1, .int pg.2.1, .int pg.2.2.1, .int pg.2.2.2, .ref tbh0]))], [(tbh0, .inr (1, [.ref qu_6, .int (0 : Int32), .int u_6.2.2.2.1, .int u_6.2.2.2.2]))], [(qu_6, .inl (G.2.1 2, u_6.2.1, .inl u_6.2.2.1))], [(qh0, .inr (11, [.ref q_state, .ref q_snapshot, .int q.1, .ref q_history, .ref pgh0, .ref q_notice, .int q.2.1, .int q.2.2]))]]) := hD
    refine W.eq (g2 := F0 m 39 ls [.int u_6.1]) rfl ?_
    have hF : f_X9_type q pg tb x = ("", u_6.1, u_6.2) := by subst eu_6; exact hF
    have hP := fl_sub (cs := [[(qh0, .inr (11, [.ref q_state, .ref q_snapshot, .int q.1, .ref q_history, .ref pgh0, .ref q_notice, .int q.2.1, .int q.2.2]))], [(pgh0, .inr (9, [.int pg.1, .int pg.2.1, .int pg.2.2.1, .int pg.2.2.2, .ref tbh0]))], [(tbh0, .inr (1, [.ref qu_6, .int (0 : Int32), .int u_6.2.2.2.1, .int u_6.2.2.2.2]))], [(qu_6, .inl (G.2.1 2, u_6.2.1, .inl u_6.2.2.1))]]) [3, 0, 1, 2] rfl hP
    have hD := fl_subD (cs := [[(qh0, .inr (11, [.ref q_state, .ref q_snapshot, .int q.1, .ref q_history, .ref pgh0, .ref q_notice, .int q.2.1, .int q.2.2]))], [(pgh0, .inr (9, [.int pg.1, .int pg.2.1, .int pg.2.2.1, .int pg.2.2.2, .ref tbh0]))], [(tbh0, .inr (1, [.ref qu_6, .int (0 : Int32), .int u_6.2.2.2.1, .int u_6.2.2.2.2]))], [(qu_6, .inl (G.2.1 2, u_6.2.1, .inl u_6.2.2.1))]]) [3, 0, 1, 2] rfl rfl hD
    exact x_ret (Nat.le_of_ble_eq_true rfl) (Nat.le_of_ble_eq_true rfl) (w_ret (u := (qu_6, ("", u_6.1, u_6.2))) hx hb hr hlk rfl hS rfl ⟨hF.symm, ⟨congrArg Prod.fst hF, trivial⟩⟩ hP hD (Nat.le_refl _) (Nat.le_refl _) dX9_type_39)
  · have hF := hF.trans (if_neg c_3)
    have hok := Eq.mp (if_neg c_3) hok
    exact xr_throwSW (A := A) (own := RX9) (cls := "java/lang/IllegalStateException") (text := "the buffer is full") (j := 28) hlf ⟨hx, hb, hml, hown, hts⟩ hST hlk hxt (by decide +kernel) u_536 u_86 (by decide +kernel) at_X9_162 ot_X9_162_158 hl.1 dX9_type_20 dX9_type_23 dX9_type_24 dX9_type_27 dX9_type_30 ⟨Nat.le_of_ble_eq_true rfl, Nat.le_of_ble_eq_true rfl⟩ ⟨Nat.le_of_ble_eq_true rfl, Nat.le_of_ble_eq_true rfl⟩ ⟨(congrArg Prod.fst hF).symm, by decide⟩ (Nat.le_of_ble_eq_true rfl) (Nat.le_of_ble_eq_true rfl)
