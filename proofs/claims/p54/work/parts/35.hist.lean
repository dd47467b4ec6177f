abbrev HiV : Type := Int32 × Int32
theorem dX4_keepDraft_0 : decode cX4_keepDraft 0 = .ok (.aload_n 0, 1) := by decide +kernel
theorem dX4_keepDraft_1 : decode cX4_keepDraft 1 = .ok (.aload_n 0, 1) := by decide +kernel
theorem dX4_keepDraft_2 : decode cX4_keepDraft 2 = .ok (.getfield 15, 3) := by decide +kernel
theorem uws_X4 : ∀ w ∈ wsX40, w ∈ UW := uw_all [1060, 1062, 1064] (by decide +kernel) (by decide +kernel)
theorem u_1058 : Cond.fieldLink RX4 15 "MoonlitDoors$History" "next" "I" ∈ UW := uw 1058 (by decide +kernel) rfl
theorem dX4_keepDraft_5 : decode cX4_keepDraft 5 = .ok (.iconst 1, 1) := by decide +kernel
theorem dX4_keepDraft_6 : decode cX4_keepDraft 6 = .ok (.iadd, 1) := by decide +kernel
theorem dX4_keepDraft_7 : decode cX4_keepDraft 7 = .ok (.bipush 9, 2) := by decide +kernel
theorem dX4_keepDraft_9 : decode cX4_keepDraft 9 = .ok (.invokestatic 40, 3) := by decide +kernel
theorem u_686 : Cond.methodLink RX4 40 yJ9_floorMod_7cf53 ∈ UW := uw 686 (by decide +kernel) rfl
theorem g_X4_40 : GoodIn UW (va_wsS RX4 40 yJ9_floorMod_7cf53 (wsU yJ9_floorMod_7cf53 cJ9_floorMod_7cf53 3 (some .int))) := gS u_686 u_537 u_44 u_538
theorem dX4_keepDraft_12 : decode cX4_keepDraft 12 = .ok (.putfield 15, 3) := by decide +kernel
theorem dX4_keepDraft_15 : decode cX4_keepDraft 15 = .ok (.aload_n 0, 1) := by decide +kernel
theorem dX4_keepDraft_16 : decode cX4_keepDraft 16 = .ok (.aload_n 0, 1) := by decide +kernel
theorem dX4_keepDraft_17 : decode cX4_keepDraft 17 = .ok (.getfield 9, 3) := by decide +kernel
theorem u_1056 : Cond.fieldLink RX4 9 "MoonlitDoors$History" "count" "I" ∈ UW := uw 1056 (by decide +kernel) rfl
theorem dX4_keepDraft_20 : decode cX4_keepDraft 20 = .ok (.iconst 1, 1) := by decide +kernel
theorem dX4_keepDraft_21 : decode cX4_keepDraft 21 = .ok (.iadd, 1) := by decide +kernel
theorem dX4_keepDraft_22 : decode cX4_keepDraft 22 = .ok (.bipush 8, 2) := by decide +kernel
theorem dX4_keepDraft_24 : decode cX4_keepDraft 24 = .ok (.invokestatic 46, 3) := by decide +kernel
theorem u_687 : Cond.methodLink RX4 46 yJ9_min_7cf53 ∈ UW := uw 687 (by decide +kernel) rfl
theorem g_X4_46 : GoodIn UW (va_wsS RX4 46 yJ9_min_7cf53 (wsU yJ9_min_7cf53 cJ9_min_7cf53 2 (some .int))) := gS u_687 u_240 u_44 u_241
theorem dX4_keepDraft_27 : decode cX4_keepDraft 27 = .ok (.putfield 9, 3) := by decide +kernel
theorem dX4_keepDraft_30 : decode cX4_keepDraft 30 = .ok (.return_, 1) := by decide +kernel
def f_X4_keepDraft (q : HiV) : HiV := ((f_J9_min_7cf53 (q.1 + (1 : Int32)) (8 : Int32)), (f_J9_floorMod_7cf53 (q.2 + (1 : Int32)) (9 : Int32)))
set_option maxHeartbeats 4000000 in
set_option maxRecDepth 100000 in
theorem c_X4_keepDraft (l : Launch) (G : GG) (qh0 : Nat) (q_rows : Nat) (sz : Nat) (q : HiV) : wMet l yX4_keepDraft cX4_keepDraft 1 none 2 0 0 G (fl [[(qh0, .inr (7, [.int q.1, .int q.2, .ref q_rows]))]]) [.ref qh0] sz (fun u : HiV => none) (fun u : HiV => u = f_X4_keepDraft q) (fun u : HiV => fl [[(qh0, .inr (7, [.int u.1, .int u.2, .ref q_rows]))]]) := by
  refine w_start (by decide +kernel) (Nat.le_of_ble_eq_true rfl) ?_
  intro p e s m below meth c A hx hb hr hml hts hown hlk hin hP hD hA hK hST ls hl
  have hS : va_S A s.heap s.heap [] := va_S.rf
  have hown : s.vm.findClass RX4 = some m.cls := hown
  have hl : lv_has ls 1 [(0, .ref qh0)] := hl
  have hF : f_X4_keepDraft q = ((f_J9_min_7cf53 (q.1 + (1 : Int32)) (8 : Int32)), (f_J9_floorMod_7cf53 (q.2 + (1 : Int32)) (9 : Int32))) := rfl
  refine lv_aload_n hx hb dX4_keepDraft_0 rfl (lv_at hl 0 rfl) ?_
  refine lv_aload_n hx hb dX4_keepDraft_1 rfl (lv_at hl 0 rfl) ?_
  refine va_get (D := G.1) (ci := 7) (v := .int q.2) (C := RX4) (T := TX4) (N := 3) hx hb hts uws_X4 hown hK hP 0 rfl rfl 1 (by decide) (hts _ u_1058) (fun _ h9 => h9) rfl dX4_keepDraft_2 ?_
  refine lv_iconst (v := (1 : Int32)) hx hb dX4_keepDraft_5 (by decide) ?_
  refine lv_iadd hx hb dX4_keepDraft_6 ?_
  refine lv_bipush (v := (9 : Int32)) hx hb dX4_keepDraft_7 (by decide) ?_
  refine r_S (own := RX4) (v := (some (.int (f_J9_floorMod_7cf53 (q.2 + (1 : Int32)) (9 : Int32))))) (st1 := [.int (f_J9_floorMod_7cf53 (q.2 + (1 : Int32)) (9 : Int32)), .ref qh0]) (As := [.int (q.2 + (1 : Int32)), .int (9 : Int32)]) (rest := [.ref qh0]) (c_J9_floorMod_7cf53 l G (q.2 + (1 : Int32)) (9 : Int32) (by decide)) ⟨hx, hb, hml, hown, hts⟩ g_X4_40 hds_J9_floorMod_7cf53 hK hST hS hP [] rfl ⟨Nat.le_of_ble_eq_true rfl, Nat.le_of_ble_eq_true rfl⟩ ⟨Nat.le_of_ble_eq_true rfl, Nat.le_of_ble_eq_true rfl⟩ rfl hl.1 rfl (Nat.le_of_ble_eq_true rfl) dX4_keepDraft_9 rfl (fun b_1 => ?_)
  refine va_put (D := G.1) (ci := 7) (v := .int (f_J9_floorMod_7cf53 (q.2 + (1 : Int32)) (9 : Int32))) (ty := .int) (C := RX4) (T := TX4) (N := 3) hx hb hts uws_X4 tyX4 tyX4_ok nmX4 hown hK hP hD hS 0 rfl rfl 1 (by decide) (hts _ u_1058) (fun _ h9 => h9) rfl (by decide +kernel) rfl rfl (Nat.le_of_ble_eq_true rfl) dX4_keepDraft_12 (fun H locs hP hD hS => ?_)
  have hP : va_P G.1 vwCl (fl [[(qh0, .inr (7, [.int q.1, .int (f_J9_floorMod_7cf53 (q.2 + (1 : Int32)) (9 : Int32)), .ref q_rows]))]]) H := hP
  have hD : va_D A (fl [[(qh0, .inr (7, [.int q.1, .int (f_J9_floorMod_7cf53 (q.2 + (1 : Int32)) (9 : Int32)), .ref q_rows]))]]) := hD
  refine lv_aload_n hx hb dX4_keepDraft_15 rfl (lv_at hl 0 rfl) ?_
  refine lv_aload_n hx hb dX4_keepDraft_16 rfl (lv_at hl 0 rfl) ?_
  refine va_get (D := G.1) (ci := 7) (v := .int q.1) (C := RX4) (T := TX4) (N := 3) hx hb hts uws_X4 hown hK hP 0 rfl rfl 0 (by decide) (hts _ u_1056) (fun _ h9 => h9) rfl dX4_keepDraft_17 ?_
  refine lv_iconst (v := (1 : Int32)) hx hb dX4_keepDraft_20 (by decide) ?_
  refine lv_iadd hx hb dX4_keepDraft_21 ?_
  refine lv_bipush (v := (8 : Int32)) hx hb dX4_keepDraft_22 (by decide) ?_
  refine r_S (own := RX4) (v := (some (.int (f_J9_min_7cf53 (q.1 + (1 : Int32)) (8 : Int32))))) (st1 := [.int (f_J9_min_7cf53 (q.1 + (1 : Int32)) (8 : Int32)), .ref qh0]) (As := [.int (q.1 + (1 : Int32)), .int (8 : Int32)]) (rest := [.ref qh0]) (c_J9_min_7cf53 l G (q.1 + (1 : Int32)) (8 : Int32)) ⟨hx, hb, hml, hown, hts⟩ g_X4_46 hds_J9_min_7cf53 hK hST hS hP [] rfl ⟨Nat.le_of_ble_eq_true rfl, Nat.le_of_ble_eq_true rfl⟩ ⟨Nat.le_of_ble_eq_true rfl, Nat.le_of_ble_eq_true rfl⟩ rfl hl.1 rfl (Nat.le_of_ble_eq_true rfl) dX4_keepDraft_24 rfl (fun b_2 => ?_)
  refine va_put (D := G.1) (ci := 7) (v := .int (f_J9_min_7cf53 (q.1 + (1 : Int32)) (8 : Int32))) (ty := .int) (C := RX4) (T := TX4) (N := 3) hx hb hts uws_X4 tyX4 tyX4_ok nmX4 hown hK hP hD hS 0 rfl rfl 0 (by decide) (hts _ u_1056) (fun _ h9 => h9) rfl (by decide +kernel) rfl rfl (Nat.le_of_ble_eq_true rfl) dX4_keepDraft_27 (fun H locs hP hD hS => ?_)
  have hP : va_P G.1 vwCl (fl [[(qh0, .inr (7, [.int (f_J9_min_7cf53 (q.1 + (1 : Int32)) (8 : Int32)), .int (f_J9_floorMod_7cf53 (q.2 + (1 : Int32)) (9 : Int32)), .ref q_rows]))]]) H := hP
  have hD : va_D A (fl [[(qh0, .inr (7, [.int (f_J9_min_7cf53 (q.1 + (1 : Int32)) (8 : Int32)), .int (f_J9_floorMod_7cf53 (q.2 + (1 : Int32)) (9 : Int32)), .ref q_rows]))]]) := hD
  exact w_retV (u := ((f_J9_min_7cf53 (q.1 + (1 : Int32)) (8 : Int32)), (f_J9_floorMod_7cf53 (q.2 + (1 : Int32)) (9 : Int32)))) hx hb hr hlk hS rfl hF.symm hP hD (Nat.le_of_ble_eq_true rfl) (Nat.le_of_ble_eq_true rfl) dX4_keepDraft_30
theorem dX4_forget_0 : decode cX4_forget 0 = .ok (.aload_n 0, 1) := by decide +kernel
theorem dX4_forget_1 : decode cX4_forget 1 = .ok (.iconst 0, 1) := by decide +kernel
theorem dX4_forget_2 : decode cX4_forget 2 = .ok (.putfield 9, 3) := by decide +kernel
theorem dX4_forget_5 : decode cX4_forget 5 = .ok (.return_, 1) := by decide +kernel
def f_X4_forget (q : HiV) : HiV := ((0 : Int32), q.2)
set_option maxHeartbeats 4000000 in
set_option maxRecDepth 100000 in
theorem c_X4_forget (l : Launch) (G : GG) (qh0 : Nat) (q_rows : Nat) (sz : Nat) (q : HiV) : wMet l yX4_forget cX4_forget 1 none 1 0 0 G (fl [[(qh0, .inr (7, [.int q.1, .int q.2, .ref q_rows]))]]) [.ref qh0] sz (fun u : HiV => none) (fun u : HiV => u = f_X4_forget q) (fun u : HiV => fl [[(qh0, .inr (7, [.int u.1, .int u.2, .ref q_rows]))]]) := by
  refine w_start (by decide +kernel) (Nat.le_of_ble_eq_true rfl) ?_
  intro p e s m below meth c A hx hb hr hml hts hown hlk hin hP hD hA hK hST ls hl
  have hS : va_S A s.heap s.heap [] := va_S.rf
  have hown : s.vm.findClass RX4 = some m.cls := hown
  have hl : lv_has ls 1 [(0, .ref qh0)] := hl
  have hF : f_X4_forget q = ((0 : Int32), q.2) := rfl
  refine lv_aload_n hx hb dX4_forget_0 rfl (lv_at hl 0 rfl) ?_
  refine lv_iconst (v := (0 : Int32)) hx hb dX4_forget_1 (by decide) ?_
  refine va_put (D := G.1) (ci := 7) (v := .int (0 : Int32)) (ty := .int) (C := RX4) (T := TX4) (N := 3) hx hb hts uws_X4 tyX4 tyX4_ok nmX4 hown hK hP hD hS 0 rfl rfl 0 (by decide) (hts _ u_1056) (fun _ h9 => h9) rfl (by decide +kernel) rfl rfl (Nat.le_of_ble_eq_true rfl) dX4_forget_2 (fun H locs hP hD hS => ?_)
  have hP : va_P G.1 vwCl (fl [[(qh0, .inr (7, [.int (0 : Int32), .int q.2, .ref q_rows]))]]) H := hP
  have hD : va_D A (fl [[(qh0, .inr (7, [.int (0 : Int32), .int q.2, .ref q_rows]))]]) := hD
  exact w_retV (u := ((0 : Int32), q.2)) hx hb hr hlk hS rfl hF.symm hP hD (Nat.le_of_ble_eq_true rfl) (Nat.le_of_ble_eq_true rfl) dX4_forget_5
theorem dX4_rowAt_0 : decode cX4_rowAt 0 = .ok (.iload_n 1, 1) := by decide +kernel
theorem dX4_rowAt_1 : decode cX4_rowAt 1 = .ok (.ifCond .lt 21, 3) := by decide +kernel
theorem dX4_rowAt_4 : decode cX4_rowAt 4 = .ok (.iload_n 1, 1) := by decide +kernel
theorem dX4_rowAt_5 : decode cX4_rowAt 5 = .ok (.aload_n 0, 1) := by decide +kernel
theorem dX4_rowAt_6 : decode cX4_rowAt 6 = .ok (.getfield 20, 3) := by decide +kernel
theorem u_1059 : Cond.fieldLink RX4 20 "MoonlitDoors$History" "rows" "[LMoonlitDoors$State;" ∈ UW := uw 1059 (by decide +kernel) rfl
theorem dX4_rowAt_9 : decode cX4_rowAt 9 = .ok (.arraylength, 1) := by decide +kernel
theorem dX4_rowAt_10 : decode cX4_rowAt 10 = .ok (.if_icmp .ge 12, 3) := by decide +kernel
theorem dX4_rowAt_13 : decode cX4_rowAt 13 = .ok (.aload_n 0, 1) := by decide +kernel
theorem dX4_rowAt_14 : decode cX4_rowAt 14 = .ok (.getfield 20, 3) := by decide +kernel
theorem dX4_rowAt_17 : decode cX4_rowAt 17 = .ok (.iload_n 1, 1) := by decide +kernel
theorem dX4_rowAt_18 : decode cX4_rowAt 18 = .ok (.aaload, 1) := by decide +kernel
theorem dX4_rowAt_19 : decode cX4_rowAt 19 = .ok (.goto 4, 3) := by decide +kernel
theorem dX4_rowAt_23 : decode cX4_rowAt 23 = .ok (.areturn, 1) := by decide +kernel
def f_X4_rowAt (q : HiV) (x : Int32) : Unit := (if x < (0 : Int32) then () else (if (nI 9) ≤ x then () else ()))
def ok_X4_rowAt (q : HiV) (x : Int32) : Prop := (if x < (0 : Int32) then False else (if (nI 9) ≤ x then False else (vp_in x 9 ∧ True)))
set_option maxHeartbeats 4000000 in
set_option maxRecDepth 100000 in
theorem c_X4_rowAt (l : Launch) (G : GG) (qh0 : Nat) (hrh : Nat) (hrf : Nat → Nat) (q : HiV) (x : Int32) (hok : ok_X4_rowAt q x) : rMet l yX4_rowAt cX4_rowAt 2 (some (.object "MoonlitDoors$State")) 1 G (fl [[(qh0, .inr (7, [.int q.1, .int q.2, .ref hrh]))], [(hrh, .inl (G.2.1 1, 9, .inr (.inr (.inr (.inr (fun j => some (hrf j)))))))]]) [.ref qh0, .int x] (some (.ref (hrf x.toNatClampNeg))) (True) := by
  refine r_start (by decide +kernel) (Nat.le_of_ble_eq_true rfl) ?_
  intro p e s m below meth c hx hb hr hml hts hown hlk hP hK hST ls hl
  have hS : va_S (fun _ => False) s.heap s.heap [] := va_S.rf
  have hown : s.vm.findClass RX4 = some m.cls := hown
  have hl : lv_has ls 2 [(0, .ref qh0), (1, .int x)] := hl
  have hF : f_X4_rowAt q x = (if x < (0 : Int32) then () else (if (nI 9) ≤ x then () else ())) := rfl
  have hok : (if x < (0 : Int32) then False else (if (nI 9) ≤ x then False else (vp_in x 9 ∧ True))) := hok
  refine lv_iload_n hx hb dX4_rowAt_0 rfl (lv_at hl 1 rfl) ?_
  refine lv_if_lt (tgt := 22) hx hb dX4_rowAt_1 (by decide) (fun c_1 => ?_) (fun c_1 => ?_)
  · have hF := hF.trans (if_pos c_1)
    have hok := Eq.mp (if_pos c_1) hok
    exact hok.elim
  · have hF := hF.trans (if_neg c_1)
    have hok := Eq.mp (if_neg c_1) hok
    refine lv_iload_n hx hb dX4_rowAt_4 rfl (lv_at hl 1 rfl) ?_
    refine lv_aload_n hx hb dX4_rowAt_5 rfl (lv_at hl 0 rfl) ?_
    refine va_get (D := G.1) (ci := 7) (v := .ref hrh) (C := RX4) (T := TX4) (N := 3) hx hb hts uws_X4 hown hK hP 0 rfl rfl 2 (by decide) (hts _ u_1059) (fun _ h9 => h9) rfl dX4_rowAt_6 ?_
    refine va_alen (v := (nI 9)) hx hb hK hP 1 1 rfl rfl rfl dX4_rowAt_9 ?_
    refine lv_icmp_ge (tgt := 22) hx hb dX4_rowAt_10 (by decide) (fun c_2 => ?_) (fun c_2 => ?_)
    · have hF := hF.trans (if_pos c_2)
      have hok := Eq.mp (if_pos c_2) hok
      exact hok.elim
    · have hF := hF.trans (if_neg c_2)
      have hok := Eq.mp (if_neg c_2) hok
      refine lv_aload_n hx hb dX4_rowAt_13 rfl (lv_at hl 0 rfl) ?_
      refine va_get (D := G.1) (ci := 7) (v := .ref hrh) (C := RX4) (T := TX4) (N := 3) hx hb hts uws_X4 hown hK hP 0 rfl rfl 2 (by decide) (hts _ u_1059) (fun _ h9 => h9) rfl dX4_rowAt_14 ?_
      refine lv_iload_n hx hb dX4_rowAt_17 rfl (lv_at hl 1 rfl) ?_
      have h_3 := hok.1
      have hok := hok.2
      refine va_aldq (C := RX8) hx hb hK hP 1 1 rfl rfl h_3 dX4_rowAt_18 ?_
      refine lv_goto (tgt := 23) hx hb dX4_rowAt_19 (by decide) ?_
      exact r_retA hx hb hr hlk (Or.inl ⟨_, rfl⟩) (Or.inr ⟨_, rfl⟩) (rfl) trivial dX4_rowAt_23
theorem dX4_copy_0 : decode cX4_copy 0 = .ok (.aload_n 0, 1) := by decide +kernel
theorem dX4_copy_1 : decode cX4_copy 1 = .ok (.ifnull 12, 3) := by decide +kernel
theorem dX4_copy_4 : decode cX4_copy 4 = .ok (.aload_n 1, 1) := by decide +kernel
theorem dX4_copy_5 : decode cX4_copy 5 = .ok (.ifnull 8, 3) := by decide +kernel
theorem dX4_copy_8 : decode cX4_copy 8 = .ok (.aload_n 1, 1) := by decide +kernel
theorem dX4_copy_9 : decode cX4_copy 9 = .ok (.aload_n 0, 1) := by decide +kernel
theorem dX4_copy_10 : decode cX4_copy 10 = .ok (.invokevirtual 49, 3) := by decide +kernel
theorem u_681 : Cond.methodLink RX4 49 yX8_copyFrom ∈ UW := uw 681 (by decide +kernel) rfl
theorem u_550 : Cond.instanceMethod yX8_copyFrom ∈ UW := uw 550 (by decide +kernel) rfl
theorem u_551 : Cond.selects RX8 yX8_copyFrom yX8_copyFrom ∈ UW := uw 551 (by decide +kernel) rfl
theorem u_552 : Cond.code yX8_copyFrom cX8_copyFrom 2 none ∈ UW := uw 552 (by decide +kernel) rfl
theorem g_X4_49 : GoodIn UW (wsV RX4 49 RX8 yX8_copyFrom (wsU yX8_copyFrom cX8_copyFrom 2 none)) := gV u_681 u_550 u_551 u_22 u_552
theorem hdv_X8_copyFrom : yX8_copyFrom.cls = RX8 ∧ yX8_copyFrom.cls ≠ "java/lang/invoke/MethodHandle" ∧ yX8_copyFrom.cls ≠ "java/lang/invoke/VarHandle" ∧ (parseMethodDescriptor yX8_copyFrom.desc).map (fun d => d.parameters.length) = some 1 := by decide +kernel
theorem dX4_copy_13 : decode cX4_copy 13 = .ok (.return_, 1) := by decide +kernel
def f_X4_copy (v : StV) (o : StV) : StV := (let u_2 : StV := (f_X8_copyFrom o v); u_2)
set_option maxHeartbeats 4000000 in
set_option maxRecDepth 100000 in
theorem c_X4_copy (l : Launch) (G : GG) (va : Nat → Nat) (oa : Nat → Nat) (sz : Nat) (v : StV) (o : StV) : wMet l yX4_copy cX4_copy 2 none 4 0 0 G (fl [[((va 0), .inr (10, [.int v.1, .int v.2.1, .ref (va 1), .ref (va 6), .ref (va 10), .ref (va 13)]))], wDo G (va 1) (va 2) (va 3) (va 4) (va 5) v.2.2.1, wEx G (va 6) (va 7) (va 8) (va 9) v.2.2.2.1, wPe G (va 10) (va 11) (va 12) v.2.2.2.2.1, wAu G (va 13) (va 14) (va 15) (va 16) (va 17) (va 18) (va 19) v.2.2.2.2.2, [((oa 0), .inr (10, [.int o.1, .int o.2.1, .ref (oa 1), .ref (oa 6), .ref (oa 10), .ref (oa 13)]))], wDo G (oa 1) (oa 2) (oa 3) (oa 4) (oa 5) o.2.2.1, wEx G (oa 6) (oa 7) (oa 8) (oa 9) o.2.2.2.1, wPe G (oa 10) (oa 11) (oa 12) o.2.2.2.2.1, wAu G (oa 13) (oa 14) (oa 15) (oa 16) (oa 17) (oa 18) (oa 19) o.2.2.2.2.2]) [.ref (va 0), .ref (oa 0)] sz (fun u : StV => none) (fun u : StV => u = f_X4_copy v o) (fun u : StV => fl [[((va 0), .inr (10, [.int v.1, .int v.2.1, .ref (va 1), .ref (va 6), .ref (va 10), .ref (va 13)]))], wDo G (va 1) (va 2) (va 3) (va 4) (va 5) v.2.2.1, wEx G (va 6) (va 7) (va 8) (va 9) v.2.2.2.1, wPe G (va 10) (va 11) (va 12) v.2.2.2.2.1, wAu G (va 13) (va 14) (va 15) (va 16) (va 17) (va 18) (va 19) v.2.2.2.2.2, [((oa 0), .inr (10, [.int u.1, .int u.2.1, .ref (oa 1), .ref (oa 6), .ref (oa 10), .ref (oa 13)]))], wDo G (oa 1) (oa 2) (oa 3) (oa 4) (oa 5) u.2.2.1, wEx G (oa 6) (oa 7) (oa 8) (oa 9) u.2.2.2.1, wPe G (oa 10) (oa 11) (oa 12) u.2.2.2.2.1, wAu G (oa 13) (oa 14) (oa 15) (oa 16) (oa 17) (oa 18) (oa 19) u.2.2.2.2.2]) := by
  refine w_start (by decide +kernel) (Nat.le_of_ble_eq_true rfl) ?_
  intro p e s m below meth c A hx hb hr hml hts hown hlk hin hP hD hA hK hST ls hl
  have hS : va_S A s.heap s.heap [] := va_S.rf
  have hown : s.vm.findClass RX4 = some m.cls := hown
  have hl : lv_has ls 2 [(0, .ref (va 0)), (1, .ref (oa 0))] := hl
  have hF : f_X4_copy v o = (let u_2 : StV := (f_X8_copyFrom o v); u_2) := rfl
  refine lv_aload_n hx hb dX4_copy_0 rfl (lv_at hl 0 rfl) ?_
  refine lv_ifnull hx hb dX4_copy_1 ?_
  refine lv_aload_n hx hb dX4_copy_4 rfl (lv_at hl 1 rfl) ?_
  refine lv_ifnull hx hb dX4_copy_5 ?_
  refine lv_aload_n hx hb dX4_copy_8 rfl (lv_at hl 1 rfl) ?_
  refine lv_aload_n hx hb dX4_copy_9 rfl (lv_at hl 0 rfl) ?_
  refine w_V (own := RX4) (cs := [[((oa 0), .inr (10, [.int o.1, .int o.2.1, .ref (oa 1), .ref (oa 6), .ref (oa 10), .ref (oa 13)]))], wDo G (oa 1) (oa 2) (oa 3) (oa 4) (oa 5) o.2.2.1, wEx G (oa 6) (oa 7) (oa 8) (oa 9) o.2.2.2.1, wPe G (oa 10) (oa 11) (oa 12) o.2.2.2.2.1, wAu G (oa 13) (oa 14) (oa 15) (oa 16) (oa 17) (oa 18) (oa 19) o.2.2.2.2.2, [((va 0), .inr (10, [.int v.1, .int v.2.1, .ref (va 1), .ref (va 6), .ref (va 10), .ref (va 13)]))], wDo G (va 1) (va 2) (va 3) (va 4) (va 5) v.2.2.1, wEx G (va 6) (va 7) (va 8) (va 9) v.2.2.2.1, wPe G (va 10) (va 11) (va 12) v.2.2.2.2.1, wAu G (va 13) (va 14) (va 15) (va 16) (va 17) (va 18) (va 19) v.2.2.2.2.2]) (rs := []) (As := [.ref (va 0)]) (rest := []) (c_X8_copyFrom l G oa va s.heap.size o v) ⟨hx, hb, hml, hown, hts⟩ g_X4_49 hdv_X8_copyFrom hK hST hS hP hD hA [5, 6, 7, 8, 9, 0, 1, 2, 3, 4] [] rfl rfl rfl (k0 := 0) rfl rfl rfl ⟨Nat.le_of_ble_eq_true rfl, Nat.le_of_ble_eq_true rfl⟩ ⟨Nat.le_of_ble_eq_true rfl, Nat.le_of_ble_eq_true rfl⟩ rfl hl.1 rfl (Nat.le_of_ble_eq_true rfl) dX4_copy_10 (fun u_2 H locs huu hP hD hS => ?_)
  have eu_2 := huu
  have hP : va_P G.1 vwCl (fl [[((oa 0), .inr (10, [.int u_2.1, .int u_2.2.1, .ref (oa 1), .ref (oa 6), .ref (oa 10), .ref (oa 13)]))], wDo G (oa 1) (oa 2) (oa 3) (oa 4) (oa 5) u_2.2.2.1, wEx G (oa 6) (oa 7) (oa 8) (oa 9) u_2.2.2.2.1, wPe G (oa 10) (oa 11) (oa 12) u_2.2.2.2.2.1, wAu G (oa 13) (oa 14) (oa 15) (oa 16) (oa 17) (oa 18) (oa 19) u_2.2.2.2.2.2, [((va 0), .inr (10, [.int v.1, .int v.2.1, .ref (va 1), .ref (va 6), .ref (va 10), .ref (va 13)]))], wDo G (va 1) (va 2) (va 3) (va 4) (va 5) v.2.2.1, wEx G (va 6) (va 7) (va 8) (va 9) v.2.2.2.1, wPe G (va 10) (va 11) (va 12) v.2.2.2.2.1, wAu G (va 13) (va 14) (va 15) (va 16) (va 17) (va 18) (va 19) v.2.2.2.2.2]) H := hP
  have hD : va_D A (fl [[((oa 0), .inr (10, [.int u_2.1, .int u_2.2.1, .ref (oa 1), .ref (oa 6), .ref (oa 10), .ref (oa 13)]))], wDo G (oa 1) (oa 2) (oa 3) (oa 4) (oa 5) u_2.2.2.1, wEx G (oa 6) (oa 7) (oa 8) (oa 9) u_2.2.2.2.1, wPe G (oa 10) (oa 11) (oa 12) u_2.2.2.2.2.1, wAu G (oa 13) (oa 14) (oa 15) (oa 16) (oa 17) (oa 18) (oa 19) u_2.2.2.2.2.2, [((va 0), .inr (10, [.int v.1, .int v.2.1, .ref (va 1), .ref (va 6), .ref (va 10), .ref (va 13)]))], wDo G (va 1) (va 2) (va 3) (va 4) (va 5) v.2.2.1, wEx G (va 6) (va 7) (va 8) (va 9) v.2.2.2.1, wPe G (va 10) (va 11) (va 12) v.2.2.2.2.1, wAu G (va 13) (va 14) (va 15) (va 16) (va 17) (va 18) (va 19) v.2.2.2.2.2]) := hD
  refine W.eq (g2 := F0 m 13 ls []) rfl ?_
  have hF : f_X4_copy v o = u_2 := by subst eu_2; exact hF
  have hP := fl_sub (cs := [[((va 0), .inr (10, [.int v.1, .int v.2.1, .ref (va 1), .ref (va 6), .ref (va 10), .ref (va 13)]))], wDo G (va 1) (va 2) (va 3) (va 4) (va 5) v.2.2.1, wEx G (va 6) (va 7) (va 8) (va 9) v.2.2.2.1, wPe G (va 10) (va 11) (va 12) v.2.2.2.2.1, wAu G (va 13) (va 14) (va 15) (va 16) (va 17) (va 18) (va 19) v.2.2.2.2.2, [((oa 0), .inr (10, [.int u_2.1, .int u_2.2.1, .ref (oa 1), .ref (oa 6), .ref (oa 10), .ref (oa 13)]))], wDo G (oa 1) (oa 2) (oa 3) (oa 4) (oa 5) u_2.2.2.1, wEx G (oa 6) (oa 7) (oa 8) (oa 9) u_2.2.2.2.1, wPe G (oa 10) (oa 11) (oa 12) u_2.2.2.2.2.1, wAu G (oa 13) (oa 14) (oa 15) (oa 16) (oa 17) (oa 18) (oa 19) u_2.2.2.2.2.2]) [5, 6, 7, 8, 9, 0, 1, 2, 3, 4] rfl hP
  have hD := fl_subD (cs := [[((va 0), .inr (10, [.int v.1, .int v.2.1, .ref (va 1), .ref (va 6), .ref (va 10), .ref (va 13)]))], wDo G (va 1) (va 2) (va 3) (va 4) (va 5) v.2.2.1, wEx G (va 6) (va 7) (va 8) (va 9) v.2.2.2.1, wPe G (va 10) (va 11) (va 12) v.2.2.2.2.1, wAu G (va 13) (va 14) (va 15) (va 16) (va 17) (va 18) (va 19) v.2.2.2.2.2, [((oa 0), .inr (10, [.int u_2.1, .int u_2.2.1, .ref (oa 1), .ref (oa 6), .ref (oa 10), .ref (oa 13)]))], wDo G (oa 1) (oa 2) (oa 3) (oa 4) (oa 5) u_2.2.2.1, wEx G (oa 6) (oa 7) (oa 8) (oa 9) u_2.2.2.2.1, wPe G (oa 10) (oa 11) (oa 12) u_2.2.2.2.2.1, wAu G (oa 13) (oa 14) (oa 15) (oa 16) (oa 17) (oa 18) (oa 19) u_2.2.2.2.2.2]) [5, 6, 7, 8, 9, 0, 1, 2, 3, 4] rfl rfl hD
  exact w_retV (u := u_2) hx hb hr hlk hS rfl hF.symm hP hD (Nat.le_of_ble_eq_true rfl) (Nat.le_of_ble_eq_true rfl) dX4_copy_13
