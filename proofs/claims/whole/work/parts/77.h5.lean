theorem dL_execute_0 : decode cL_execute 0 = .ok (.aload_n 1, 1) := by decide +kernel
theorem dL_execute_1 : decode cL_execute 1 = .ok (.iconst 0, 1) := by decide +kernel
theorem dL_execute_2 : decode cL_execute 2 = .ok (.aload_n 0, 1) := by decide +kernel
theorem dL_execute_3 : decode cL_execute 3 = .ok (.invokevirtual 152, 3) := by decide +kernel
theorem u_1534 : Cond.methodLink RL 152 yX9_execute ∈ UW := uw 1534 (by decide +kernel) rfl
theorem u_1535 : Cond.instanceMethod yX9_execute ∈ UW := uw 1535 (by decide +kernel) rfl
theorem u_1536 : Cond.selects RX9 yX9_execute yX9_execute ∈ UW := uw 1536 (by decide +kernel) rfl
theorem u_1537 : Cond.code yX9_execute cX9_execute 3 (some .int) ∈ UW := uw 1537 (by decide +kernel) rfl
theorem g_L_152 : GoodIn UW (wsV RL 152 RX9 yX9_execute (wsU yX9_execute cX9_execute 3 (some .int))) := gV u_1534 u_1535 u_1536 u_65 u_1537
theorem hdv_X9_execute : yX9_execute.cls = RX9 ∧ yX9_execute.cls ≠ "java/lang/invoke/MethodHandle" ∧ yX9_execute.cls ≠ "java/lang/invoke/VarHandle" ∧ (parseMethodDescriptor yX9_execute.desc).map (fun d => d.parameters.length) = some 0 := by decide +kernel
theorem dL_execute_6 : decode cL_execute 6 = .ok (.i2l, 1) := by decide +kernel
theorem dL_execute_7 : decode cL_execute 7 = .ok (.lastore, 1) := by decide +kernel
theorem dL_execute_8 : decode cL_execute 8 = .ok (.goto 9, 3) := by decide +kernel
theorem dL_execute_17 : decode cL_execute 17 = .ok (.iconst 0, 1) := by decide +kernel
theorem dL_execute_18 : decode cL_execute 18 = .ok (.ireturn, 1) := by decide +kernel
theorem dL_execute_11 : decode cL_execute 11 = .ok (.astore_n 2, 1) := by decide +kernel
theorem dL_execute_12 : decode cL_execute 12 = .ok (.iconst 1, 1) := by decide +kernel
theorem dL_execute_13 : decode cL_execute 13 = .ok (.ireturn, 1) := by decide +kernel
theorem dL_execute_14 : decode cL_execute 14 = .ok (.astore_n 2, 1) := by decide +kernel
theorem dL_execute_15 : decode cL_execute 15 = .ok (.iconst 2, 1) := by decide +kernel
theorem dL_execute_16 : decode cL_execute 16 = .ok (.ireturn, 1) := by decide +kernel
def f_L_execute (q : McV) (v : StV) (hi : HiV) (hs : Nat → StV) (pg : PrV) (tb : SbV) (ow : Nat → Int64) : Int32 × McV × StV × HiV × (Nat → StV) × PrV × SbV × (Nat → Int64) := (let u_4 : String × Int32 × McV × StV × HiV × (Nat → StV) × PrV × SbV := (f_X9_execute q v hi hs pg tb); (if u_4.1 = "" then ((0 : Int32), u_4.2.2.1, u_4.2.2.2.1, u_4.2.2.2.2.1, u_4.2.2.2.2.2.1, u_4.2.2.2.2.2.2.1, u_4.2.2.2.2.2.2.2, (vp_updL ow (0 : Int32).toNatClampNeg u_4.2.1.toInt64)) else (if (f_X9_execute q v hi hs pg tb).1 = "java/lang/IllegalArgumentException" then ((1 : Int32), (f_X9_execute q v hi hs pg tb).2.2.1, (f_X9_execute q v hi hs pg tb).2.2.2.1, (f_X9_execute q v hi hs pg tb).2.2.2.2.1, (f_X9_execute q v hi hs pg tb).2.2.2.2.2.1, (f_X9_execute q v hi hs pg tb).2.2.2.2.2.2.1, (f_X9_execute q v hi hs pg tb).2.2.2.2.2.2.2, ow) else (if (f_X9_execute q v hi hs pg tb).1 = "java/lang/IllegalStateException" then ((2 : Int32), (f_X9_execute q v hi hs pg tb).2.2.1, (f_X9_execute q v hi hs pg tb).2.2.2.1, (f_X9_execute q v hi hs pg tb).2.2.2.2.1, (f_X9_execute q v hi hs pg tb).2.2.2.2.2.1, (f_X9_execute q v hi hs pg tb).2.2.2.2.2.2.1, (f_X9_execute q v hi hs pg tb).2.2.2.2.2.2.2, ow) else (0, q, v, hi, hs, pg, tb, ow)))))
def ok_L_execute (q : McV) (v : StV) (hi : HiV) (hs : Nat → StV) (pg : PrV) (tb : SbV) (ow : Nat → Int64) : Prop := (ok_X9_execute q v hi hs pg tb ∧ (nx9 hi.2 ∧ (∀ u_4 : String × Int32 × McV × StV × HiV × (Nat → StV) × PrV × SbV, u_4 = (f_X9_execute q v hi hs pg tb) → (if u_4.1 = "" then True else (if (f_X9_execute q v hi hs pg tb).1 = "java/lang/IllegalArgumentException" then True else (if (f_X9_execute q v hi hs pg tb).1 = "java/lang/IllegalStateException" then True else False))))))
set_option maxHeartbeats 8000000 in
set_option maxRecDepth 100000 in
set_option linter.constructorNameAsVariable false in
theorem c_L_execute (l : Launch) (hlf : l.stackTraces = false) (G : GG) (qh0 : Nat) (q_snapshot : Nat) (q_notice : Nat) (va : Nat → Nat) (hih0 : Nat) (hsh : Nat) (hsa : Nat → Nat → Nat) (pgh0 : Nat) (tbh0 : Nat) (tbh1 : Nat) (owh : Nat) (sz : Nat) (q : McV) (v : StV) (hi : HiV) (hs : Nat → StV) (pg : PrV) (tb : SbV) (ow : Nat → Int64) (hok : ok_L_execute q v hi hs pg tb ow) : wMetH l yL_execute cL_execute 3 (some .int) [(0, 8, 11, 13), (0, 8, 14, 15)] 12 2 206 G (fl [[(qh0, .inr (11, [.ref (va 0), .ref q_snapshot, .int q.1, .ref hih0, .ref pgh0, .ref q_notice, .int q.2.1, .int q.2.2]))], wSt G va v, [(hih0, .inr (7, [.int hi.1, .int hi.2, .ref hsh]))], wHs G hsh hsa hs, [(pgh0, .inr (9, [.int pg.1, .int pg.2.1, .int pg.2.2.1, .int pg.2.2.2, .ref tbh0]))], [(tbh0, .inr (1, [.ref tbh1, .int (0 : Int32), .int tb.2.2.1, .int tb.2.2.2]))], [(tbh1, .inl (G.2.1 2, tb.1, .inl tb.2.1))], [(owh, .inl (G.2.1 3, 1, .inr (.inl ow)))]]) [.ref qh0, .ref owh] sz (fun u : Nat × Int32 × McV × StV × HiV × (Nat → StV) × PrV × SbV × (Nat → Int64) => some (.int u.2.1)) (fun u : Nat × Int32 × McV × StV × HiV × (Nat → StV) × PrV × SbV × (Nat → Int64) => u.2 = f_L_execute q v hi hs pg tb ow) (fun u : Nat × Int32 × McV × StV × HiV × (Nat → StV) × PrV × SbV × (Nat → Int64) => fl [[(qh0, .inr (11, [.ref (va 0), .ref q_snapshot, .int u.2.2.1.1, .ref hih0, .ref pgh0, .ref q_notice, .int u.2.2.1.2.1, .int u.2.2.1.2.2]))], wSt G va u.2.2.2.1, [(hih0, .inr (7, [.int u.2.2.2.2.1.1, .int u.2.2.2.2.1.2, .ref hsh]))], wHs G hsh hsa u.2.2.2.2.2.1, [(pgh0, .inr (9, [.int u.2.2.2.2.2.2.1.1, .int u.2.2.2.2.2.2.1.2.1, .int u.2.2.2.2.2.2.1.2.2.1, .int u.2.2.2.2.2.2.1.2.2.2, .ref tbh0]))], [(tbh0, .inr (1, [.ref u.1, .int (0 : Int32), .int u.2.2.2.2.2.2.2.1.2.2.1, .int u.2.2.2.2.2.2.2.1.2.2.2]))], [(u.1, .inl (G.2.1 2, u.2.2.2.2.2.2.2.1.1, .inl u.2.2.2.2.2.2.2.1.2.1))], [(owh, .inl (G.2.1 3, 1, .inr (.inl u.2.2.2.2.2.2.2.2)))]]) := by
  refine w_startH (by decide +kernel) (Nat.le_of_ble_eq_true rfl) ?_
  intro p e s m below meth c A hx hb hr hml hts hown hlk hin hxt hP hD hA hK hST ls hl
  have hS : va_S A s.heap s.heap [] := va_S.rf
  have hown : s.vm.findClass RL = some m.cls := hown
  have hl : lv_has ls 3 [(0, .ref qh0), (1, .ref owh)] := hl
  have hF : f_L_execute q v hi hs pg tb ow = (let u_4 : String × Int32 × McV × StV × HiV × (Nat → StV) × PrV × SbV := (f_X9_execute q v hi hs pg tb); (if u_4.1 = "" then ((0 : Int32), u_4.2.2.1, u_4.2.2.2.1, u_4.2.2.2.2.1, u_4.2.2.2.2.2.1, u_4.2.2.2.2.2.2.1, u_4.2.2.2.2.2.2.2, (vp_updL ow (0 : Int32).toNatClampNeg u_4.2.1.toInt64)) else (if (f_X9_execute q v hi hs pg tb).1 = "java/lang/IllegalArgumentException" then ((1 : Int32), (f_X9_execute q v hi hs pg tb).2.2.1, (f_X9_execute q v hi hs pg tb).2.2.2.1, (f_X9_execute q v hi hs pg tb).2.2.2.2.1, (f_X9_execute q v hi hs pg tb).2.2.2.2.2.1, (f_X9_execute q v hi hs pg tb).2.2.2.2.2.2.1, (f_X9_execute q v hi hs pg tb).2.2.2.2.2.2.2, ow) else (if (f_X9_execute q v hi hs pg tb).1 = "java/lang/IllegalStateException" then ((2 : Int32), (f_X9_execute q v hi hs pg tb).2.2.1, (f_X9_execute q v hi hs pg tb).2.2.2.1, (f_X9_execute q v hi hs pg tb).2.2.2.2.1, (f_X9_execute q v hi hs pg tb).2.2.2.2.2.1, (f_X9_execute q v hi hs pg tb).2.2.2.2.2.2.1, (f_X9_execute q v hi hs pg tb).2.2.2.2.2.2.2, ow) else (0, q, v, hi, hs, pg, tb, ow))))) := rfl
  have hok : (ok_X9_execute q v hi hs pg tb ∧ (nx9 hi.2 ∧ (∀ u_4 : String × Int32 × McV × StV × HiV × (Nat → StV) × PrV × SbV, u_4 = (f_X9_execute q v hi hs pg tb) → (if u_4.1 = "" then True else (if (f_X9_execute q v hi hs pg tb).1 = "java/lang/IllegalArgumentException" then True else (if (f_X9_execute q v hi hs pg tb).1 = "java/lang/IllegalStateException" then True else False)))))) := hok
  refine lv_aload_n hx hb dL_execute_0 rfl (lv_at hl 1 rfl) ?_
  refine lv_iconst (v := (0 : Int32)) hx hb dL_execute_1 (by decide) ?_
  refine lv_aload_n hx hb dL_execute_2 rfl (lv_at hl 0 rfl) ?_
  have k_1 := hok.1
  have hok := hok.2
  have k_2 := hok.1
  have hok := hok.2
  refine xx_V (own := RL) (cs := [[(qh0, .inr (11, [.ref (va 0), .ref q_snapshot, .int q.1, .ref hih0, .ref pgh0, .ref q_notice, .int q.2.1, .int q.2.2]))], wSt G va v, [(hih0, .inr (7, [.int hi.1, .int hi.2, .ref hsh]))], wHs G hsh hsa hs, [(pgh0, .inr (9, [.int pg.1, .int pg.2.1, .int pg.2.2.1, .int pg.2.2.2, .ref tbh0]))], [(tbh0, .inr (1, [.ref tbh1, .int (0 : Int32), .int tb.2.2.1, .int tb.2.2.2]))], [(tbh1, .inl (G.2.1 2, tb.1, .inl tb.2.1))]]) (rs := [[(owh, .inl (G.2.1 3, 1, .inr (.inl ow)))]]) (As := []) (rest := [.int (0 : Int32), .ref owh]) (c_X9_execute l hlf G qh0 q_snapshot q_notice va hih0 hsh hsa pgh0 tbh0 tbh1 s.heap.size q v hi hs pg tb k_1 k_2) ⟨hx, hb, hml, hown, hts⟩ g_L_152 hdv_X9_execute hK hST hS hP hD hA [0, 1, 2, 3, 4, 5, 6] [7] rfl rfl rfl (k0 := 0) rfl rfl rfl ⟨Nat.le_of_ble_eq_true rfl, Nat.le_of_ble_eq_true rfl⟩ ⟨Nat.le_of_ble_eq_true rfl, Nat.le_of_ble_eq_true rfl⟩ rfl hl.1 rfl (Nat.le_of_ble_eq_true rfl) dL_execute_3 (fun E ce q9 u9 H locs hE hP hD hS h3 h4 h5 => ?_) (fun u_4 H locs huu hP hD hS => ?_)
  rotate_left
  obtain ⟨qu_4, u_4⟩ := u_4
  obtain ⟨huu, b_3⟩ := huu
  have huu : u_4 = (f_X9_execute q v hi hs pg tb) := huu
  rw [← huu] at b_3
  have eu_4 : u_4 = (f_X9_execute q v hi hs pg tb) := huu
  have hP : va_P G.1 vwCl (fl [[(qh0, .inr (11, [.ref (va 0), .ref q_snapshot, .int u_4.2.2.1.1, .ref hih0, .ref pgh0, .ref q_notice, .int u_4.2.2.1.2.1, .int u_4.2.2.1.2.2]))], wSt G va u_4.2.2.2.1, [(hih0, .inr (7, [.int u_4.2.2.2.2.1.1, .int u_4.2.2.2.2.1.2, .ref hsh]))], wHs G hsh hsa u_4.2.2.2.2.2.1, [(pgh0, .inr (9, [.int u_4.2.2.2.2.2.2.1.1, .int u_4.2.2.2.2.2.2.1.2.1, .int u_4.2.2.2.2.2.2.1.2.2.1, .int u_4.2.2.2.2.2.2.1.2.2.2, .ref tbh0]))], [(tbh0, .inr (1, [.ref qu_4, .int (0 : Int32), .int u_4.2.2.2.2.2.2.2.2.2.1, .int u_4.2.2.2.2.2.2.2.2.2.2]))], [(qu_4, .inl (G.2.1 2, u_4.2.2.2.2.2.2.2.1, .inl u_4.2.2.2.2.2.2.2.2.1))], [(owh, .inl (G.2.1 3, 1, .inr (.inl ow)))]]) H := hP
  have hD : va_D A (fl [[(qh0, .inr (11, [.ref (va 0), .ref q_snapshot, .int u_4.2.2.1.1, .ref hih0, .ref pgh0, .ref q_notice, .int u_4.2.2.1.2.1, .int u_4.2.2.1.2.2]))], wSt G va u_4.2.2.2.1, [(hih0, .inr (7, [.int u_4.2.2.2.2.1.1, .int u_4.2.2.2.2.1.2, .ref hsh]))], wHs G hsh hsa u_4.2.2.2.2.2.1, [(pgh0, .inr (9, [.int u_4.2.2.2.2.2.2.1.1, .int u_4.2.2.2.2.2.2.1.2.1, .int u_4.2.2.2.2.2.2.1.2.2.1, .int u_4.2.2.2.2.2.2.1.2.2.2, .ref tbh0]))], [(tbh0, .inr (1, [.ref qu_4, .int (0 : Int32), .int u_4.2.2.2.2.2.2.2.2.2.1, .int u_4.2.2.2.2.2.2.2.2.2.2]))], [(qu_4, .inl (G.2.1 2, u_4.2.2.2.2.2.2.2.1, .inl u_4.2.2.2.2.2.2.2.2.1))], [(owh, .inl (G.2.1 3, 1, .inr (.inl ow)))]]) := hD
  refine W.eq (g2 := F0 m 6 ls [.int u_4.2.1, .int (0 : Int32), .ref owh]) rfl ?_
  have hE := b_3.1
  rw [← eu_4] at hF
  have hF := hF.trans (if_pos hE)
  have hok : (if u_4.1 = "" then True else (if (f_X9_execute q v hi hs pg tb).1 = "java/lang/IllegalArgumentException" then True else (if (f_X9_execute q v hi hs pg tb).1 = "java/lang/IllegalStateException" then True else False))) := hok _ eu_4
  have hok := Eq.mp (if_pos hE) hok
  refine lv_i2l hx hb dL_execute_6 rfl ?_
  refine va_last hx hb hK hP hD hS 206 3 rfl rfl (vp_in_nI (n := 0) (by decide) (by decide)) dL_execute_7 (fun H locs hP hD hS => ?_)
  have hP : va_P G.1 vwCl (fl [[(qh0, .inr (11, [.ref (va 0), .ref q_snapshot, .int u_4.2.2.1.1, .ref hih0, .ref pgh0, .ref q_notice, .int u_4.2.2.1.2.1, .int u_4.2.2.1.2.2]))], wSt G va u_4.2.2.2.1, [(hih0, .inr (7, [.int u_4.2.2.2.2.1.1, .int u_4.2.2.2.2.1.2, .ref hsh]))], wHs G hsh hsa u_4.2.2.2.2.2.1, [(pgh0, .inr (9, [.int u_4.2.2.2.2.2.2.1.1, .int u_4.2.2.2.2.2.2.1.2.1, .int u_4.2.2.2.2.2.2.1.2.2.1, .int u_4.2.2.2.2.2.2.1.2.2.2, .ref tbh0]))], [(tbh0, .inr (1, [.ref qu_4, .int (0 : Int32), .int u_4.2.2.2.2.2.2.2.2.2.1, .int u_4.2.2.2.2.2.2.2.2.2.2]))], [(qu_4, .inl (G.2.1 2, u_4.2.2.2.2.2.2.2.1, .inl u_4.2.2.2.2.2.2.2.2.1))], [(owh, .inl (G.2.1 3, 1, .inr (.inl (vp_updL ow (0 : Int32).toNatClampNeg u_4.2.1.toInt64))))]]) H := hP
  have hD : va_D A (fl [[(qh0, .inr (11, [.ref (va 0), .ref q_snapshot, .int u_4.2.2.1.1, .ref hih0, .ref pgh0, .ref q_notice, .int u_4.2.2.1.2.1, .int u_4.2.2.1.2.2]))], wSt G va u_4.2.2.2.1, [(hih0, .inr (7, [.int u_4.2.2.2.2.1.1, .int u_4.2.2.2.2.1.2, .ref hsh]))], wHs G hsh hsa u_4.2.2.2.2.2.1, [(pgh0, .inr (9, [.int u_4.2.2.2.2.2.2.1.1, .int u_4.2.2.2.2.2.2.1.2.1, .int u_4.2.2.2.2.2.2.1.2.2.1, .int u_4.2.2.2.2.2.2.1.2.2.2, .ref tbh0]))], [(tbh0, .inr (1, [.ref qu_4, .int (0 : Int32), .int u_4.2.2.2.2.2.2.2.2.2.1, .int u_4.2.2.2.2.2.2.2.2.2.2]))], [(qu_4, .inl (G.2.1 2, u_4.2.2.2.2.2.2.2.1, .inl u_4.2.2.2.2.2.2.2.2.1))], [(owh, .inl (G.2.1 3, 1, .inr (.inl (vp_updL ow (0 : Int32).toNatClampNeg u_4.2.1.toInt64))))]]) := hD
  refine lv_goto (tgt := 17) hx hb dL_execute_8 (by decide) ?_
  refine lv_iconst (v := (0 : Int32)) hx hb dL_execute_17 (by decide) ?_
  exact w_ret (u := (qu_4, ((0 : Int32), u_4.2.2.1, u_4.2.2.2.1, u_4.2.2.2.2.1, u_4.2.2.2.2.2.1, u_4.2.2.2.2.2.2.1, u_4.2.2.2.2.2.2.2, (vp_updL ow (0 : Int32).toNatClampNeg u_4.2.1.toInt64)))) hx hb hr hlk rfl hS rfl hF.symm hP hD (Nat.le_of_ble_eq_true rfl) (Nat.le_of_ble_eq_true rfl) dL_execute_18
  obtain ⟨qu_4, u9⟩ := u9
  obtain ⟨e9, hE⟩ := hE
  have e9 : u9 = (f_X9_execute q v hi hs pg tb) := e9
  have hE : E = u9.1 ∧ E ≠ "" := hE
  rw [← e9] at hF
  have hok := hok _ e9
  rw [← e9] at hok
  have hP : va_P G.1 vwCl (fl [[(qh0, .inr (11, [.ref (va 0), .ref q_snapshot, .int u9.2.2.1.1, .ref hih0, .ref pgh0, .ref q_notice, .int u9.2.2.1.2.1, .int u9.2.2.1.2.2]))], wSt G va u9.2.2.2.1, [(hih0, .inr (7, [.int u9.2.2.2.2.1.1, .int u9.2.2.2.2.1.2, .ref hsh]))], wHs G hsh hsa u9.2.2.2.2.2.1, [(pgh0, .inr (9, [.int u9.2.2.2.2.2.2.1.1, .int u9.2.2.2.2.2.2.1.2.1, .int u9.2.2.2.2.2.2.1.2.2.1, .int u9.2.2.2.2.2.2.1.2.2.2, .ref tbh0]))], [(tbh0, .inr (1, [.ref qu_4, .int (0 : Int32), .int u9.2.2.2.2.2.2.2.2.2.1, .int u9.2.2.2.2.2.2.2.2.2.2]))], [(qu_4, .inl (G.2.1 2, u9.2.2.2.2.2.2.2.1, .inl u9.2.2.2.2.2.2.2.2.1))], [(owh, .inl (G.2.1 3, 1, .inr (.inl ow)))]]) H := hP
  have hD : va_D A (fl [[(qh0, .inr (11, [.ref (va 0), .ref q_snapshot, .int u9.2.2.1.1, .ref hih0, .ref pgh0, .ref q_notice, .int u9.2.2.1.2.1, .int u9.2.2.1.2.2]))], wSt G va u9.2.2.2.1, [(hih0, .inr (7, [.int u9.2.2.2.2.1.1, .int u9.2.2.2.2.1.2, .ref hsh]))], wHs G hsh hsa u9.2.2.2.2.2.1, [(pgh0, .inr (9, [.int u9.2.2.2.2.2.2.1.1, .int u9.2.2.2.2.2.2.1.2.1, .int u9.2.2.2.2.2.2.1.2.2.1, .int u9.2.2.2.2.2.2.1.2.2.2, .ref tbh0]))], [(tbh0, .inr (1, [.ref qu_4, .int (0 : Int32), .int u9.2.2.2.2.2.2.2.2.2.1, .int u9.2.2.2.2.2.2.2.2.2.2]))], [(qu_4, .inl (G.2.1 2, u9.2.2.2.2.2.2.2.1, .inl u9.2.2.2.2.2.2.2.2.1))], [(owh, .inl (G.2.1 3, 1, .inr (.inl ow)))]]) := hD
  have hF := hF.trans (if_neg (fun e => hE.2 (hE.1.trans e)))
  have hok := Eq.mp (if_neg (fun e => hE.2 (hE.1.trans e))) hok
  by_cases c_5 : u9.1 = "java/lang/IllegalArgumentException"
  · have hF := hF.trans (if_pos c_5)
    have hok := Eq.mp (if_pos c_5) hok
    have hEE : E = "java/lang/IllegalArgumentException" := hE.1.trans c_5
    subst hEE
    refine vx_catch (own := RL) (name := "java/lang/IllegalArgumentException") hown [] (⟨0, 8, 11, 13⟩ : ExceptionTableEntry) [(⟨0, 8, 14, 15⟩ : ExceptionTableEntry)] (hxt.trans rfl) (fun z hz => nomatch hz) (by decide) (by decide) (hts _ u_403) (va_tabs rfl rfl (hST.2.2.2.2.2.2.2.1 _ cst_IllegalArgumentException)) h3 h4 h5 ?_
    refine W.eq (g2 := F0 m 11 ls [.ref q9]) rfl ?_
    refine lv_astore_n (lv' := [(2, .ref q9), (0, .ref qh0), (1, .ref owh)]) hx hb dL_execute_11 rfl hl (by decide) rfl (fun ls hl => ?_)
    refine lv_iconst (v := (1 : Int32)) hx hb dL_execute_12 (by decide) ?_
    exact w_ret (u := (qu_4, ((1 : Int32), u9.2.2.1, u9.2.2.2.1, u9.2.2.2.2.1, u9.2.2.2.2.2.1, u9.2.2.2.2.2.2.1, u9.2.2.2.2.2.2.2, ow))) hx hb hr hlk rfl hS rfl hF.symm hP hD (Nat.le_of_ble_eq_true rfl) (Nat.le_of_ble_eq_true rfl) dL_execute_13
  · have hF := hF.trans (if_neg c_5)
    have hok := Eq.mp (if_neg c_5) hok
    by_cases c_6 : u9.1 = "java/lang/IllegalStateException"
    · have hF := hF.trans (if_pos c_6)
      have hok := Eq.mp (if_pos c_6) hok
      have hEE : E = "java/lang/IllegalStateException" := hE.1.trans c_6
      subst hEE
      refine vx_catch (own := RL) (name := "java/lang/IllegalStateException") hown [(⟨0, 8, 11, 13⟩ : ExceptionTableEntry)] (⟨0, 8, 14, 15⟩ : ExceptionTableEntry) [] (hxt.trans rfl) (List.forall_mem_cons.mpr ⟨Or.inr ⟨by decide, "java/lang/IllegalArgumentException", hts _ u_403, hST.2.2.2.2.2.2.2.2.1 ("java/lang/IllegalStateException", "java/lang/IllegalArgumentException") (by decide +kernel)⟩, fun _ h => nomatch h⟩) (by decide) (by decide) (hts _ u_404) (va_tabs rfl rfl (hST.2.2.2.2.2.2.2.1 _ cst_IllegalStateException)) h3 h4 h5 ?_
      refine W.eq (g2 := F0 m 14 ls [.ref q9]) rfl ?_
      refine lv_astore_n (lv' := [(2, .ref q9), (0, .ref qh0), (1, .ref owh)]) hx hb dL_execute_14 rfl hl (by decide) rfl (fun ls hl => ?_)
      refine lv_iconst (v := (2 : Int32)) hx hb dL_execute_15 (by decide) ?_
      exact w_ret (u := (qu_4, ((2 : Int32), u9.2.2.1, u9.2.2.2.1, u9.2.2.2.2.1, u9.2.2.2.2.2.1, u9.2.2.2.2.2.2.1, u9.2.2.2.2.2.2.2, ow))) hx hb hr hlk rfl hS rfl hF.symm hP hD (Nat.le_of_ble_eq_true rfl) (Nat.le_of_ble_eq_true rfl) dL_execute_16
    · have hF := hF.trans (if_neg c_6)
      have hok := Eq.mp (if_neg c_6) hok
      exact hok.elim
theorem dL_errorPosition_0 : decode cL_errorPosition 0 = .ok (.aload_n 1, 1) := by decide +kernel
theorem dL_errorPosition_1 : decode cL_errorPosition 1 = .ok (.iconst 0, 1) := by decide +kernel
theorem dL_errorPosition_2 : decode cL_errorPosition 2 = .ok (.aload_n 0, 1) := by decide +kernel
theorem dL_errorPosition_3 : decode cL_errorPosition 3 = .ok (.invokevirtual 155, 3) := by decide +kernel
theorem u_1639 : Cond.methodLink RL 155 yX9_errorPosition ∈ UW := uw 1639 (by decide +kernel) rfl
theorem u_1640 : Cond.instanceMethod yX9_errorPosition ∈ UW := uw 1640 (by decide +kernel) rfl
theorem u_1641 : Cond.selects RX9 yX9_errorPosition yX9_errorPosition ∈ UW := uw 1641 (by decide +kernel) rfl
theorem u_1642 : Cond.code yX9_errorPosition cX9_errorPosition 1 (some .int) ∈ UW := uw 1642 (by decide +kernel) rfl
theorem g_L_155 : GoodIn UW (wsV RL 155 RX9 yX9_errorPosition (wsU yX9_errorPosition cX9_errorPosition 1 (some .int))) := gV u_1639 u_1640 u_1641 u_65 u_1642
theorem hdv_X9_errorPosition : yX9_errorPosition.cls = RX9 ∧ yX9_errorPosition.cls ≠ "java/lang/invoke/MethodHandle" ∧ yX9_errorPosition.cls ≠ "java/lang/invoke/VarHandle" ∧ (parseMethodDescriptor yX9_errorPosition.desc).map (fun d => d.parameters.length) = some 0 := by decide +kernel
theorem dL_errorPosition_11 : decode cL_errorPosition 11 = .ok (.astore_n 2, 1) := by decide +kernel
theorem dL_errorPosition_12 : decode cL_errorPosition 12 = .ok (.iconst 1, 1) := by decide +kernel
theorem dL_errorPosition_13 : decode cL_errorPosition 13 = .ok (.ireturn, 1) := by decide +kernel
theorem dL_errorPosition_6 : decode cL_errorPosition 6 = .ok (.i2l, 1) := by decide +kernel
theorem dL_errorPosition_7 : decode cL_errorPosition 7 = .ok (.lastore, 1) := by decide +kernel
theorem dL_errorPosition_8 : decode cL_errorPosition 8 = .ok (.goto 6, 3) := by decide +kernel
theorem dL_errorPosition_14 : decode cL_errorPosition 14 = .ok (.iconst 0, 1) := by decide +kernel
theorem dL_errorPosition_15 : decode cL_errorPosition 15 = .ok (.ireturn, 1) := by decide +kernel
def f_L_errorPosition (q : McV) (ow : Nat → Int64) : Int32 × (Nat → Int64) := (if (f_X9_errorPosition q).1 = "" then ((0 : Int32), (vp_updL ow (0 : Int32).toNatClampNeg (((f_X9_errorPosition q).2).toInt64))) else (if (f_X9_errorPosition q).1 = "java/util/NoSuchElementException" then ((1 : Int32), ow) else (0, ow)))
def ok_L_errorPosition (q : McV) (ow : Nat → Int64) : Prop := (if (f_X9_errorPosition q).1 = "" then True else (if (f_X9_errorPosition q).1 = "java/util/NoSuchElementException" then True else False))
set_option maxHeartbeats 8000000 in
set_option maxRecDepth 100000 in
set_option linter.constructorNameAsVariable false in
theorem c_L_errorPosition (l : Launch) (hlf : l.stackTraces = false) (G : GG) (qh0 : Nat) (q_state : Nat) (q_snapshot : Nat) (q_history : Nat) (q_program : Nat) (q_notice : Nat) (owh : Nat) (sz : Nat) (q : McV) (ow : Nat → Int64) (hok : ok_L_errorPosition q ow) : wMetH l yL_errorPosition cL_errorPosition 3 (some .int) [(0, 8, 11, 33)] 10 1 6 G (fl [[(qh0, .inr (11, [.ref q_state, .ref q_snapshot, .int q.1, .ref q_history, .ref q_program, .ref q_notice, .int q.2.1, .int q.2.2]))], [(owh, .inl (G.2.1 3, 1, .inr (.inl ow)))]]) [.ref qh0, .ref owh] sz (fun u : Int32 × (Nat → Int64) => some (.int u.1)) (fun u : Int32 × (Nat → Int64) => u = f_L_errorPosition q ow) (fun u : Int32 × (Nat → Int64) => fl [[(qh0, .inr (11, [.ref q_state, .ref q_snapshot, .int q.1, .ref q_history, .ref q_program, .ref q_notice, .int q.2.1, .int q.2.2]))], [(owh, .inl (G.2.1 3, 1, .inr (.inl u.2)))]]) := by
  refine w_startH (by decide +kernel) (Nat.le_of_ble_eq_true rfl) ?_
  intro p e s m below meth c A hx hb hr hml hts hown hlk hin hxt hP hD hA hK hST ls hl
  have hS : va_S A s.heap s.heap [] := va_S.rf
  have hown : s.vm.findClass RL = some m.cls := hown
  have hl : lv_has ls 3 [(0, .ref qh0), (1, .ref owh)] := hl
  have hF : f_L_errorPosition q ow = (if (f_X9_errorPosition q).1 = "" then ((0 : Int32), (vp_updL ow (0 : Int32).toNatClampNeg (((f_X9_errorPosition q).2).toInt64))) else (if (f_X9_errorPosition q).1 = "java/util/NoSuchElementException" then ((1 : Int32), ow) else (0, ow))) := rfl
  have hok : (if (f_X9_errorPosition q).1 = "" then True else (if (f_X9_errorPosition q).1 = "java/util/NoSuchElementException" then True else False)) := hok
  refine lv_aload_n hx hb dL_errorPosition_0 rfl (lv_at hl 1 rfl) ?_
  refine lv_iconst (v := (0 : Int32)) hx hb dL_errorPosition_1 (by decide) ?_
  refine lv_aload_n hx hb dL_errorPosition_2 rfl (lv_at hl 0 rfl) ?_
  refine xr_V (own := RL) (v := (some (.int ((f_X9_errorPosition q).2)))) (st1 := [.int ((f_X9_errorPosition q).2), .int (0 : Int32), .ref owh]) (As := []) (rest := [.int (0 : Int32), .ref owh]) (c_X9_errorPosition l hlf G qh0 q_state q_snapshot q_history q_program q_notice q) ⟨hx, hb, hml, hown, hts⟩ g_L_155 hdv_X9_errorPosition hK hST hS hP [0] rfl (k0 := 0) rfl rfl rfl ⟨Nat.le_of_ble_eq_true rfl, Nat.le_of_ble_eq_true rfl⟩ ⟨Nat.le_of_ble_eq_true rfl, Nat.le_of_ble_eq_true rfl⟩ rfl hl.1 rfl (Nat.le_of_ble_eq_true rfl) dL_errorPosition_3 rfl (fun E ce q9 H hE h1 h2 h3 h4 h5 => ?_) (fun b_1 => ?_)
  · have hF := hF.trans (if_neg (fun e => hE.2 (hE.1.trans e)))
    have hok := Eq.mp (if_neg (fun e => hE.2 (hE.1.trans e))) hok
    have hP := hP.kept (fun k q hk => h2 q.1 ((hP k q hk).lt))
    have hS : va_S A s.heap H _ := ⟨Nat.le_trans hS.1 h1, fun q hq hA => (h2 q (Nat.lt_of_lt_of_le hq hS.1)).trans (hS.2.1 q hq hA), hS.2.2⟩
    by_cases c_2 : (f_X9_errorPosition q).1 = "java/util/NoSuchElementException"
    · have hF := hF.trans (if_pos c_2)
      have hok := Eq.mp (if_pos c_2) hok
      have hEE : E = "java/util/NoSuchElementException" := hE.1.trans c_2
      subst hEE
      refine vx_catch (own := RL) (name := "java/util/NoSuchElementException") hown [] (⟨0, 8, 11, 33⟩ : ExceptionTableEntry) [] (hxt.trans rfl) (fun z hz => nomatch hz) (by decide) (by decide) (hts _ u_689) (va_tabs rfl rfl (hST.2.2.2.2.2.2.2.1 _ cst_NoSuchElementException)) h3 h4 h5 ?_
      refine W.eq (g2 := F0 m 11 ls [.ref q9]) rfl ?_
      refine lv_astore_n (lv' := [(2, .ref q9), (0, .ref qh0), (1, .ref owh)]) hx hb dL_errorPosition_11 rfl hl (by decide) rfl (fun ls hl => ?_)
      refine lv_iconst (v := (1 : Int32)) hx hb dL_errorPosition_12 (by decide) ?_
      exact w_ret (u := ((1 : Int32), ow)) hx hb hr hlk rfl hS rfl hF.symm hP hD (Nat.le_of_ble_eq_true rfl) (Nat.le_of_ble_eq_true rfl) dL_errorPosition_13
    · have hF := hF.trans (if_neg c_2)
      have hok := Eq.mp (if_neg c_2) hok
      exact hok.elim
  · have hE := b_1.1
    have b_1 := b_1.2
    have hF := hF.trans (if_pos hE)
    have hok := Eq.mp (if_pos hE) hok
    refine lv_i2l hx hb dL_errorPosition_6 rfl ?_
    refine va_last hx hb hK hP hD hS 1 3 rfl rfl (vp_in_nI (n := 0) (by decide) (by decide)) dL_errorPosition_7 (fun H locs hP hD hS => ?_)
    have hP : va_P G.1 vwCl (fl [[(qh0, .inr (11, [.ref q_state, .ref q_snapshot, .int q.1, .ref q_history, .ref q_program, .ref q_notice, .int q.2.1, .int q.2.2]))], [(owh, .inl (G.2.1 3, 1, .inr (.inl (vp_updL ow (0 : Int32).toNatClampNeg (((f_X9_errorPosition q).2).toInt64)))))]]) H := hP
    have hD : va_D A (fl [[(qh0, .inr (11, [.ref q_state, .ref q_snapshot, .int q.1, .ref q_history, .ref q_program, .ref q_notice, .int q.2.1, .int q.2.2]))], [(owh, .inl (G.2.1 3, 1, .inr (.inl (vp_updL ow (0 : Int32).toNatClampNeg (((f_X9_errorPosition q).2).toInt64)))))]]) := hD
    refine lv_goto (tgt := 14) hx hb dL_errorPosition_8 (by decide) ?_
    refine lv_iconst (v := (0 : Int32)) hx hb dL_errorPosition_14 (by decide) ?_
    exact w_ret (u := ((0 : Int32), (vp_updL ow (0 : Int32).toNatClampNeg (((f_X9_errorPosition q).2).toInt64)))) hx hb hr hlk rfl hS rfl hF.symm hP hD (Nat.le_of_ble_eq_true rfl) (Nat.le_of_ble_eq_true rfl) dL_errorPosition_15
theorem dL_failedCommand_0 : decode cL_failedCommand 0 = .ok (.aload_n 1, 1) := by decide +kernel
theorem dL_failedCommand_1 : decode cL_failedCommand 1 = .ok (.iconst 0, 1) := by decide +kernel
theorem dL_failedCommand_2 : decode cL_failedCommand 2 = .ok (.aload_n 0, 1) := by decide +kernel
theorem dL_failedCommand_3 : decode cL_failedCommand 3 = .ok (.invokevirtual 158, 3) := by decide +kernel
theorem u_1646 : Cond.methodLink RL 158 yX9_failedCommand ∈ UW := uw 1646 (by decide +kernel) rfl
theorem u_1647 : Cond.instanceMethod yX9_failedCommand ∈ UW := uw 1647 (by decide +kernel) rfl
theorem u_1648 : Cond.selects RX9 yX9_failedCommand yX9_failedCommand ∈ UW := uw 1648 (by decide +kernel) rfl
theorem u_1649 : Cond.code yX9_failedCommand cX9_failedCommand 1 (some .int) ∈ UW := uw 1649 (by decide +kernel) rfl
theorem g_L_158 : GoodIn UW (wsV RL 158 RX9 yX9_failedCommand (wsU yX9_failedCommand cX9_failedCommand 1 (some .int))) := gV u_1646 u_1647 u_1648 u_65 u_1649
theorem hdv_X9_failedCommand : yX9_failedCommand.cls = RX9 ∧ yX9_failedCommand.cls ≠ "java/lang/invoke/MethodHandle" ∧ yX9_failedCommand.cls ≠ "java/lang/invoke/VarHandle" ∧ (parseMethodDescriptor yX9_failedCommand.desc).map (fun d => d.parameters.length) = some 0 := by decide +kernel
theorem dL_failedCommand_11 : decode cL_failedCommand 11 = .ok (.astore_n 2, 1) := by decide +kernel
theorem dL_failedCommand_12 : decode cL_failedCommand 12 = .ok (.iconst 1, 1) := by decide +kernel
theorem dL_failedCommand_13 : decode cL_failedCommand 13 = .ok (.ireturn, 1) := by decide +kernel
theorem dL_failedCommand_6 : decode cL_failedCommand 6 = .ok (.i2l, 1) := by decide +kernel
theorem dL_failedCommand_7 : decode cL_failedCommand 7 = .ok (.lastore, 1) := by decide +kernel
theorem dL_failedCommand_8 : decode cL_failedCommand 8 = .ok (.goto 6, 3) := by decide +kernel
theorem dL_failedCommand_14 : decode cL_failedCommand 14 = .ok (.iconst 0, 1) := by decide +kernel
theorem dL_failedCommand_15 : decode cL_failedCommand 15 = .ok (.ireturn, 1) := by decide +kernel
def f_L_failedCommand (q : McV) (ow : Nat → Int64) : Int32 × (Nat → Int64) := (if (f_X9_failedCommand q).1 = "" then ((0 : Int32), (vp_updL ow (0 : Int32).toNatClampNeg (((f_X9_failedCommand q).2).toInt64))) else (if (f_X9_failedCommand q).1 = "java/util/NoSuchElementException" then ((1 : Int32), ow) else (0, ow)))
def ok_L_failedCommand (q : McV) (ow : Nat → Int64) : Prop := (if (f_X9_failedCommand q).1 = "" then True else (if (f_X9_failedCommand q).1 = "java/util/NoSuchElementException" then True else False))
set_option maxHeartbeats 8000000 in
set_option maxRecDepth 100000 in
set_option linter.constructorNameAsVariable false in
theorem c_L_failedCommand (l : Launch) (hlf : l.stackTraces = false) (G : GG) (qh0 : Nat) (q_state : Nat) (q_snapshot : Nat) (q_history : Nat) (q_program : Nat) (q_notice : Nat) (owh : Nat) (sz : Nat) (q : McV) (ow : Nat → Int64) (hok : ok_L_failedCommand q ow) : wMetH l yL_failedCommand cL_failedCommand 3 (some .int) [(0, 8, 11, 33)] 10 1 6 G (fl [[(qh0, .inr (11, [.ref q_state, .ref q_snapshot, .int q.1, .ref q_history, .ref q_program, .ref q_notice, .int q.2.1, .int q.2.2]))], [(owh, .inl (G.2.1 3, 1, .inr (.inl ow)))]]) [.ref qh0, .ref owh] sz (fun u : Int32 × (Nat → Int64) => some (.int u.1)) (fun u : Int32 × (Nat → Int64) => u = f_L_failedCommand q ow) (fun u : Int32 × (Nat → Int64) => fl [[(qh0, .inr (11, [.ref q_state, .ref q_snapshot, .int q.1, .ref q_history, .ref q_program, .ref q_notice, .int q.2.1, .int q.2.2]))], [(owh, .inl (G.2.1 3, 1, .inr (.inl u.2)))]]) := by
  refine w_startH (by decide +kernel) (Nat.le_of_ble_eq_true rfl) ?_
  intro p e s m below meth c A hx hb hr hml hts hown hlk hin hxt hP hD hA hK hST ls hl
  have hS : va_S A s.heap s.heap [] := va_S.rf
  have hown : s.vm.findClass RL = some m.cls := hown
  have hl : lv_has ls 3 [(0, .ref qh0), (1, .ref owh)] := hl
  have hF : f_L_failedCommand q ow = (if (f_X9_failedCommand q).1 = "" then ((0 : Int32), (vp_updL ow (0 : Int32).toNatClampNeg (((f_X9_failedCommand q).2).toInt64))) else (if (f_X9_failedCommand q).1 = "java/util/NoSuchElementException" then ((1 : Int32), ow) else (0, ow))) := rfl
  have hok : (if (f_X9_failedCommand q).1 = "" then True else (if (f_X9_failedCommand q).1 = "java/util/NoSuchElementException" then True else False)) := hok
  refine lv_aload_n hx hb dL_failedCommand_0 rfl (lv_at hl 1 rfl) ?_
  refine lv_iconst (v := (0 : Int32)) hx hb dL_failedCommand_1 (by decide) ?_
  refine lv_aload_n hx hb dL_failedCommand_2 rfl (lv_at hl 0 rfl) ?_
  refine xr_V (own := RL) (v := (some (.int ((f_X9_failedCommand q).2)))) (st1 := [.int ((f_X9_failedCommand q).2), .int (0 : Int32), .ref owh]) (As := []) (rest := [.int (0 : Int32), .ref owh]) (c_X9_failedCommand l hlf G qh0 q_state q_snapshot q_history q_program q_notice q) ⟨hx, hb, hml, hown, hts⟩ g_L_158 hdv_X9_failedCommand hK hST hS hP [0] rfl (k0 := 0) rfl rfl rfl ⟨Nat.le_of_ble_eq_true rfl, Nat.le_of_ble_eq_true rfl⟩ ⟨Nat.le_of_ble_eq_true rfl, Nat.le_of_ble_eq_true rfl⟩ rfl hl.1 rfl (Nat.le_of_ble_eq_true rfl) dL_failedCommand_3 rfl (fun E ce q9 H hE h1 h2 h3 h4 h5 => ?_) (fun b_1 => ?_)
  · have hF := hF.trans (if_neg (fun e => hE.2 (hE.1.trans e)))
    have hok := Eq.mp (if_neg (fun e => hE.2 (hE.1.trans e))) hok
    have hP := hP.kept (fun k q hk => h2 q.1 ((hP k q hk).lt))
    have hS : va_S A s.heap H _ := ⟨Nat.le_trans hS.1 h1, fun q hq hA => (h2 q (Nat.lt_of_lt_of_le hq hS.1)).trans (hS.2.1 q hq hA), hS.2.2⟩
    by_cases c_2 : (f_X9_failedCommand q).1 = "java/util/NoSuchElementException"
    · have hF := hF.trans (if_pos c_2)
      have hok := Eq.mp (if_pos c_2) hok
      have hEE : E = "java/util/NoSuchElementException" := hE.1.trans c_2
      subst hEE
      refine vx_catch (own := RL) (name := "java/util/NoSuchElementException") hown [] (⟨0, 8, 11, 33⟩ : ExceptionTableEntry) [] (hxt.trans rfl) (fun z hz => nomatch hz) (by decide) (by decide) (hts _ u_689) (va_tabs rfl rfl (hST.2.2.2.2.2.2.2.1 _ cst_NoSuchElementException)) h3 h4 h5 ?_
      refine W.eq (g2 := F0 m 11 ls [.ref q9]) rfl ?_
      refine lv_astore_n (lv' := [(2, .ref q9), (0, .ref qh0), (1, .ref owh)]) hx hb dL_failedCommand_11 rfl hl (by decide) rfl (fun ls hl => ?_)
      refine lv_iconst (v := (1 : Int32)) hx hb dL_failedCommand_12 (by decide) ?_
      exact w_ret (u := ((1 : Int32), ow)) hx hb hr hlk rfl hS rfl hF.symm hP hD (Nat.le_of_ble_eq_true rfl) (Nat.le_of_ble_eq_true rfl) dL_failedCommand_13
    · have hF := hF.trans (if_neg c_2)
      have hok := Eq.mp (if_neg c_2) hok
      exact hok.elim
  · have hE := b_1.1
    have b_1 := b_1.2
    have hF := hF.trans (if_pos hE)
    have hok := Eq.mp (if_pos hE) hok
    refine lv_i2l hx hb dL_failedCommand_6 rfl ?_
    refine va_last hx hb hK hP hD hS 1 3 rfl rfl (vp_in_nI (n := 0) (by decide) (by decide)) dL_failedCommand_7 (fun H locs hP hD hS => ?_)
    have hP : va_P G.1 vwCl (fl [[(qh0, .inr (11, [.ref q_state, .ref q_snapshot, .int q.1, .ref q_history, .ref q_program, .ref q_notice, .int q.2.1, .int q.2.2]))], [(owh, .inl (G.2.1 3, 1, .inr (.inl (vp_updL ow (0 : Int32).toNatClampNeg (((f_X9_failedCommand q).2).toInt64)))))]]) H := hP
    have hD : va_D A (fl [[(qh0, .inr (11, [.ref q_state, .ref q_snapshot, .int q.1, .ref q_history, .ref q_program, .ref q_notice, .int q.2.1, .int q.2.2]))], [(owh, .inl (G.2.1 3, 1, .inr (.inl (vp_updL ow (0 : Int32).toNatClampNeg (((f_X9_failedCommand q).2).toInt64)))))]]) := hD
    refine lv_goto (tgt := 14) hx hb dL_failedCommand_8 (by decide) ?_
    refine lv_iconst (v := (0 : Int32)) hx hb dL_failedCommand_14 (by decide) ?_
    exact w_ret (u := ((0 : Int32), (vp_updL ow (0 : Int32).toNatClampNeg (((f_X9_failedCommand q).2).toInt64)))) hx hb hr hlk rfl hS rfl hF.symm hP hD (Nat.le_of_ble_eq_true rfl) (Nat.le_of_ble_eq_true rfl) dL_failedCommand_15
theorem dL_undo_0 : decode cL_undo 0 = .ok (.aload_n 1, 1) := by decide +kernel
theorem dL_undo_1 : decode cL_undo 1 = .ok (.iconst 0, 1) := by decide +kernel
theorem dL_undo_2 : decode cL_undo 2 = .ok (.aload_n 0, 1) := by decide +kernel
theorem dL_undo_3 : decode cL_undo 3 = .ok (.invokevirtual 161, 3) := by decide +kernel
theorem u_1653 : Cond.methodLink RL 161 yX9_undo ∈ UW := uw 1653 (by decide +kernel) rfl
theorem u_1654 : Cond.instanceMethod yX9_undo ∈ UW := uw 1654 (by decide +kernel) rfl
theorem u_1655 : Cond.selects RX9 yX9_undo yX9_undo ∈ UW := uw 1655 (by decide +kernel) rfl
theorem u_1656 : Cond.code yX9_undo cX9_undo 1 (some .int) ∈ UW := uw 1656 (by decide +kernel) rfl
theorem g_L_161 : GoodIn UW (wsV RL 161 RX9 yX9_undo (wsU yX9_undo cX9_undo 1 (some .int))) := gV u_1653 u_1654 u_1655 u_65 u_1656
theorem hdv_X9_undo : yX9_undo.cls = RX9 ∧ yX9_undo.cls ≠ "java/lang/invoke/MethodHandle" ∧ yX9_undo.cls ≠ "java/lang/invoke/VarHandle" ∧ (parseMethodDescriptor yX9_undo.desc).map (fun d => d.parameters.length) = some 0 := by decide +kernel
theorem dL_undo_6 : decode cL_undo 6 = .ok (.i2l, 1) := by decide +kernel
theorem dL_undo_7 : decode cL_undo 7 = .ok (.lastore, 1) := by decide +kernel
theorem dL_undo_8 : decode cL_undo 8 = .ok (.goto 6, 3) := by decide +kernel
theorem dL_undo_14 : decode cL_undo 14 = .ok (.iconst 0, 1) := by decide +kernel
theorem dL_undo_15 : decode cL_undo 15 = .ok (.ireturn, 1) := by decide +kernel
theorem dL_undo_11 : decode cL_undo 11 = .ok (.astore_n 2, 1) := by decide +kernel
theorem dL_undo_12 : decode cL_undo 12 = .ok (.iconst 1, 1) := by decide +kernel
theorem dL_undo_13 : decode cL_undo 13 = .ok (.ireturn, 1) := by decide +kernel
def f_L_undo (q : McV) (v : StV) (hi : HiV) (hs : Nat → StV) (ow : Nat → Int64) : Int32 × StV × HiV × (Nat → StV) × (Nat → Int64) := (let u_3 : String × Int32 × StV × HiV × (Nat → StV) := (f_X9_undo q v hi hs); (if u_3.1 = "" then ((0 : Int32), u_3.2.2.1, u_3.2.2.2.1, u_3.2.2.2.2, (vp_updL ow (0 : Int32).toNatClampNeg u_3.2.1.toInt64)) else (if (f_X9_undo q v hi hs).1 = "java/lang/IllegalStateException" then ((1 : Int32), v, hi, hs, ow) else (0, v, hi, hs, ow))))
def ok_L_undo (q : McV) (v : StV) (hi : HiV) (hs : Nat → StV) (ow : Nat → Int64) : Prop := (ok_X9_undo q v hi hs ∧ (let u_3 : String × Int32 × StV × HiV × (Nat → StV) := (f_X9_undo q v hi hs); (if u_3.1 = "" then True else (if (f_X9_undo q v hi hs).1 = "java/lang/IllegalStateException" then True else False))))
set_option maxHeartbeats 8000000 in
set_option maxRecDepth 100000 in
set_option linter.constructorNameAsVariable false in
theorem c_L_undo (l : Launch) (hlf : l.stackTraces = false) (G : GG) (qh0 : Nat) (q_snapshot : Nat) (q_program : Nat) (q_notice : Nat) (va : Nat → Nat) (hih0 : Nat) (hsh : Nat) (hsa : Nat → Nat → Nat) (owh : Nat) (sz : Nat) (q : McV) (v : StV) (hi : HiV) (hs : Nat → StV) (ow : Nat → Int64) (hok : ok_L_undo q v hi hs ow) : wMetH l yL_undo cL_undo 3 (some .int) [(0, 8, 11, 15)] 9 1 6 G (fl [[(qh0, .inr (11, [.ref (va 0), .ref q_snapshot, .int q.1, .ref hih0, .ref q_program, .ref q_notice, .int q.2.1, .int q.2.2]))], wSt G va v, [(hih0, .inr (7, [.int hi.1, .int hi.2, .ref hsh]))], wHs G hsh hsa hs, [(owh, .inl (G.2.1 3, 1, .inr (.inl ow)))]]) [.ref qh0, .ref owh] sz (fun u : Int32 × StV × HiV × (Nat → StV) × (Nat → Int64) => some (.int u.1)) (fun u : Int32 × StV × HiV × (Nat → StV) × (Nat → Int64) => u = f_L_undo q v hi hs ow) (fun u : Int32 × StV × HiV × (Nat → StV) × (Nat → Int64) => fl [[(qh0, .inr (11, [.ref (va 0), .ref q_snapshot, .int q.1, .ref hih0, .ref q_program, .ref q_notice, .int q.2.1, .int q.2.2]))], wSt G va u.2.1, [(hih0, .inr (7, [.int u.2.2.1.1, .int u.2.2.1.2, .ref hsh]))], wHs G hsh hsa u.2.2.2.1, [(owh, .inl (G.2.1 3, 1, .inr (.inl u.2.2.2.2)))]]) := by
  refine w_startH (by decide +kernel) (Nat.le_of_ble_eq_true rfl) ?_
  intro p e s m below meth c A hx hb hr hml hts hown hlk hin hxt hP hD hA hK hST ls hl
  have hS : va_S A s.heap s.heap [] := va_S.rf
  have hown : s.vm.findClass RL = some m.cls := hown
  have hl : lv_has ls 3 [(0, .ref qh0), (1, .ref owh)] := hl
  have hF : f_L_undo q v hi hs ow = (let u_3 : String × Int32 × StV × HiV × (Nat → StV) := (f_X9_undo q v hi hs); (if u_3.1 = "" then ((0 : Int32), u_3.2.2.1, u_3.2.2.2.1, u_3.2.2.2.2, (vp_updL ow (0 : Int32).toNatClampNeg u_3.2.1.toInt64)) else (if (f_X9_undo q v hi hs).1 = "java/lang/IllegalStateException" then ((1 : Int32), v, hi, hs, ow) else (0, v, hi, hs, ow)))) := rfl
  have hok : (ok_X9_undo q v hi hs ∧ (let u_3 : String × Int32 × StV × HiV × (Nat → StV) := (f_X9_undo q v hi hs); (if u_3.1 = "" then True else (if (f_X9_undo q v hi hs).1 = "java/lang/IllegalStateException" then True else False)))) := hok
  refine lv_aload_n hx hb dL_undo_0 rfl (lv_at hl 1 rfl) ?_
  refine lv_iconst (v := (0 : Int32)) hx hb dL_undo_1 (by decide) ?_
  refine lv_aload_n hx hb dL_undo_2 rfl (lv_at hl 0 rfl) ?_
  have k_1 := hok.1
  have hok := hok.2
  refine xw_V (own := RL) (cs := [[(qh0, .inr (11, [.ref (va 0), .ref q_snapshot, .int q.1, .ref hih0, .ref q_program, .ref q_notice, .int q.2.1, .int q.2.2]))], wSt G va v, [(hih0, .inr (7, [.int hi.1, .int hi.2, .ref hsh]))], wHs G hsh hsa hs]) (rs := [[(owh, .inl (G.2.1 3, 1, .inr (.inl ow)))]]) (As := []) (rest := [.int (0 : Int32), .ref owh]) (c_X9_undoS l hlf G qh0 q_snapshot q_program q_notice va hih0 hsh hsa s.heap.size q v hi hs k_1) ⟨hx, hb, hml, hown, hts⟩ g_L_161 hdv_X9_undo hK hST hS hP hD hA [0, 1, 2, 3] [4] rfl rfl rfl (k0 := 0) rfl rfl rfl ⟨Nat.le_of_ble_eq_true rfl, Nat.le_of_ble_eq_true rfl⟩ ⟨Nat.le_of_ble_eq_true rfl, Nat.le_of_ble_eq_true rfl⟩ rfl hl.1 rfl (Nat.le_of_ble_eq_true rfl) dL_undo_3 (fun E ce q9 H locs hE hP hS h3 h4 h5 => ?_) (fun u_3 H locs huu hP hD hS => ?_)
  rotate_left
  obtain ⟨huu, b_2⟩ := huu
  rw [← huu] at b_2
  have eu_3 := huu
  have hP : va_P G.1 vwCl (fl [[(qh0, .inr (11, [.ref (va 0), .ref q_snapshot, .int q.1, .ref hih0, .ref q_program, .ref q_notice, .int q.2.1, .int q.2.2]))], wSt G va u_3.2.2.1, [(hih0, .inr (7, [.int u_3.2.2.2.1.1, .int u_3.2.2.2.1.2, .ref hsh]))], wHs G hsh hsa u_3.2.2.2.2, [(owh, .inl (G.2.1 3, 1, .inr (.inl ow)))]]) H := hP
  have hD : va_D A (fl [[(qh0, .inr (11, [.ref (va 0), .ref q_snapshot, .int q.1, .ref hih0, .ref q_program, .ref q_notice, .int q.2.1, .int q.2.2]))], wSt G va u_3.2.2.1, [(hih0, .inr (7, [.int u_3.2.2.2.1.1, .int u_3.2.2.2.1.2, .ref hsh]))], wHs G hsh hsa u_3.2.2.2.2, [(owh, .inl (G.2.1 3, 1, .inr (.inl ow)))]]) := hD
  refine W.eq (g2 := F0 m 6 ls [.int u_3.2.1, .int (0 : Int32), .ref owh]) rfl ?_
  have hE := b_2.1
  have hF : f_L_undo q v hi hs ow = (if u_3.1 = "" then ((0 : Int32), u_3.2.2.1, u_3.2.2.2.1, u_3.2.2.2.2, (vp_updL ow (0 : Int32).toNatClampNeg u_3.2.1.toInt64)) else (if (f_X9_undo q v hi hs).1 = "java/lang/IllegalStateException" then ((1 : Int32), v, hi, hs, ow) else (0, v, hi, hs, ow))) := by subst eu_3; exact hF
  have hF := hF.trans (if_pos hE)
  have hok : (if u_3.1 = "" then True else (if (f_X9_undo q v hi hs).1 = "java/lang/IllegalStateException" then True else False)) := by subst eu_3; exact hok
  have hok := Eq.mp (if_pos hE) hok
  refine lv_i2l hx hb dL_undo_6 rfl ?_
  refine va_last hx hb hK hP hD hS 203 3 rfl rfl (vp_in_nI (n := 0) (by decide) (by decide)) dL_undo_7 (fun H locs hP hD hS => ?_)
  have hP : va_P G.1 vwCl (fl [[(qh0, .inr (11, [.ref (va 0), .ref q_snapshot, .int q.1, .ref hih0, .ref q_program, .ref q_notice, .int q.2.1, .int q.2.2]))], wSt G va u_3.2.2.1, [(hih0, .inr (7, [.int u_3.2.2.2.1.1, .int u_3.2.2.2.1.2, .ref hsh]))], wHs G hsh hsa u_3.2.2.2.2, [(owh, .inl (G.2.1 3, 1, .inr (.inl (vp_updL ow (0 : Int32).toNatClampNeg u_3.2.1.toInt64))))]]) H := hP
  have hD : va_D A (fl [[(qh0, .inr (11, [.ref (va 0), .ref q_snapshot, .int q.1, .ref hih0, .ref q_program, .ref q_notice, .int q.2.1, .int q.2.2]))], wSt G va u_3.2.2.1, [(hih0, .inr (7, [.int u_3.2.2.2.1.1, .int u_3.2.2.2.1.2, .ref hsh]))], wHs G hsh hsa u_3.2.2.2.2, [(owh, .inl (G.2.1 3, 1, .inr (.inl (vp_updL ow (0 : Int32).toNatClampNeg u_3.2.1.toInt64))))]]) := hD
  refine lv_goto (tgt := 14) hx hb dL_undo_8 (by decide) ?_
  refine lv_iconst (v := (0 : Int32)) hx hb dL_undo_14 (by decide) ?_
  exact w_ret (u := ((0 : Int32), u_3.2.2.1, u_3.2.2.2.1, u_3.2.2.2.2, (vp_updL ow (0 : Int32).toNatClampNeg u_3.2.1.toInt64))) hx hb hr hlk rfl hS rfl hF.symm hP hD (Nat.le_of_ble_eq_true rfl) (Nat.le_of_ble_eq_true rfl) dL_undo_15
  have hF := hF.trans (if_neg (fun e => hE.2 (hE.1.trans e)))
  have hok := Eq.mp (if_neg (fun e => hE.2 (hE.1.trans e))) hok
  by_cases c_4 : (f_X9_undo q v hi hs).1 = "java/lang/IllegalStateException"
  · have hF := hF.trans (if_pos c_4)
    have hok := Eq.mp (if_pos c_4) hok
    have hEE : E = "java/lang/IllegalStateException" := hE.1.trans c_4
    subst hEE
    refine vx_catch (own := RL) (name := "java/lang/IllegalStateException") hown [] (⟨0, 8, 11, 15⟩ : ExceptionTableEntry) [] (hxt.trans rfl) (fun z hz => nomatch hz) (by decide) (by decide) (hts _ u_404) (va_tabs rfl rfl (hST.2.2.2.2.2.2.2.1 _ cst_IllegalStateException)) h3 h4 h5 ?_
    refine W.eq (g2 := F0 m 11 ls [.ref q9]) rfl ?_
    refine lv_astore_n (lv' := [(2, .ref q9), (0, .ref qh0), (1, .ref owh)]) hx hb dL_undo_11 rfl hl (by decide) rfl (fun ls hl => ?_)
    refine lv_iconst (v := (1 : Int32)) hx hb dL_undo_12 (by decide) ?_
    exact w_ret (u := ((1 : Int32), v, hi, hs, ow)) hx hb hr hlk rfl hS rfl hF.symm hP hD (Nat.le_of_ble_eq_true rfl) (Nat.le_of_ble_eq_true rfl) dL_undo_13
  · have hF := hF.trans (if_neg c_4)
    have hok := Eq.mp (if_neg c_4) hok
    exact hok.elim
theorem dL_restore_0 : decode cL_restore 0 = .ok (.aload_n 1, 1) := by decide +kernel
theorem dL_restore_1 : decode cL_restore 1 = .ok (.iconst 0, 1) := by decide +kernel
theorem dL_restore_2 : decode cL_restore 2 = .ok (.aload_n 0, 1) := by decide +kernel
theorem dL_restore_3 : decode cL_restore 3 = .ok (.invokevirtual 164, 3) := by decide +kernel
theorem u_1665 : Cond.methodLink RL 164 yX9_restore ∈ UW := uw 1665 (by decide +kernel) rfl
theorem u_1666 : Cond.instanceMethod yX9_restore ∈ UW := uw 1666 (by decide +kernel) rfl
theorem u_1667 : Cond.selects RX9 yX9_restore yX9_restore ∈ UW := uw 1667 (by decide +kernel) rfl
theorem u_1668 : Cond.code yX9_restore cX9_restore 1 (some .int) ∈ UW := uw 1668 (by decide +kernel) rfl
theorem g_L_164 : GoodIn UW (wsV RL 164 RX9 yX9_restore (wsU yX9_restore cX9_restore 1 (some .int))) := gV u_1665 u_1666 u_1667 u_65 u_1668
theorem hdv_X9_restore : yX9_restore.cls = RX9 ∧ yX9_restore.cls ≠ "java/lang/invoke/MethodHandle" ∧ yX9_restore.cls ≠ "java/lang/invoke/VarHandle" ∧ (parseMethodDescriptor yX9_restore.desc).map (fun d => d.parameters.length) = some 0 := by decide +kernel
theorem dL_restore_6 : decode cL_restore 6 = .ok (.i2l, 1) := by decide +kernel
theorem dL_restore_7 : decode cL_restore 7 = .ok (.lastore, 1) := by decide +kernel
theorem dL_restore_8 : decode cL_restore 8 = .ok (.goto 6, 3) := by decide +kernel
theorem dL_restore_14 : decode cL_restore 14 = .ok (.iconst 0, 1) := by decide +kernel
theorem dL_restore_15 : decode cL_restore 15 = .ok (.ireturn, 1) := by decide +kernel
theorem dL_restore_11 : decode cL_restore 11 = .ok (.astore_n 2, 1) := by decide +kernel
theorem dL_restore_12 : decode cL_restore 12 = .ok (.iconst 1, 1) := by decide +kernel
theorem dL_restore_13 : decode cL_restore 13 = .ok (.ireturn, 1) := by decide +kernel
def f_L_restore (q : McV) (v : StV) (o : StV) (hi : HiV) (ow : Nat → Int64) : Int32 × StV × HiV × (Nat → Int64) := (let u_2 : String × Int32 × StV × HiV := (f_X9_restore q v o hi); (if u_2.1 = "" then ((0 : Int32), u_2.2.2.1, u_2.2.2.2, (vp_updL ow (0 : Int32).toNatClampNeg u_2.2.1.toInt64)) else (if (f_X9_restore q v o hi).1 = "java/lang/IllegalStateException" then ((1 : Int32), v, hi, ow) else (0, v, hi, ow))))
def ok_L_restore (q : McV) (v : StV) (o : StV) (hi : HiV) (ow : Nat → Int64) : Prop := (let u_2 : String × Int32 × StV × HiV := (f_X9_restore q v o hi); (if u_2.1 = "" then True else (if (f_X9_restore q v o hi).1 = "java/lang/IllegalStateException" then True else False)))
set_option maxHeartbeats 8000000 in
set_option maxRecDepth 100000 in
set_option linter.constructorNameAsVariable false in
theorem c_L_restore (l : Launch) (hlf : l.stackTraces = false) (G : GG) (qh0 : Nat) (q_program : Nat) (q_notice : Nat) (va : Nat → Nat) (oa : Nat → Nat) (hih0 : Nat) (hi_rows : Nat) (owh : Nat) (sz : Nat) (q : McV) (v : StV) (o : StV) (hi : HiV) (ow : Nat → Int64) (hok : ok_L_restore q v o hi ow) : wMetH l yL_restore cL_restore 3 (some .int) [(0, 8, 11, 15)] 9 1 6 G (fl [[(qh0, .inr (11, [.ref (va 0), .ref (oa 0), .int q.1, .ref hih0, .ref q_program, .ref q_notice, .int q.2.1, .int q.2.2]))], wSt G va v, wSt G oa o, [(hih0, .inr (7, [.int hi.1, .int hi.2, .ref hi_rows]))], [(owh, .inl (G.2.1 3, 1, .inr (.inl ow)))]]) [.ref qh0, .ref owh] sz (fun u : Int32 × StV × HiV × (Nat → Int64) => some (.int u.1)) (fun u : Int32 × StV × HiV × (Nat → Int64) => u = f_L_restore q v o hi ow) (fun u : Int32 × StV × HiV × (Nat → Int64) => fl [[(qh0, .inr (11, [.ref (va 0), .ref (oa 0), .int q.1, .ref hih0, .ref q_program, .ref q_notice, .int q.2.1, .int q.2.2]))], wSt G va u.2.1, wSt G oa o, [(hih0, .inr (7, [.int u.2.2.1.1, .int u.2.2.1.2, .ref hi_rows]))], [(owh, .inl (G.2.1 3, 1, .inr (.inl u.2.2.2)))]]) := by
  refine w_startH (by decide +kernel) (Nat.le_of_ble_eq_true rfl) ?_
  intro p e s m below meth c A hx hb hr hml hts hown hlk hin hxt hP hD hA hK hST ls hl
  have hS : va_S A s.heap s.heap [] := va_S.rf
  have hown : s.vm.findClass RL = some m.cls := hown
  have hl : lv_has ls 3 [(0, .ref qh0), (1, .ref owh)] := hl
  have hF : f_L_restore q v o hi ow = (let u_2 : String × Int32 × StV × HiV := (f_X9_restore q v o hi); (if u_2.1 = "" then ((0 : Int32), u_2.2.2.1, u_2.2.2.2, (vp_updL ow (0 : Int32).toNatClampNeg u_2.2.1.toInt64)) else (if (f_X9_restore q v o hi).1 = "java/lang/IllegalStateException" then ((1 : Int32), v, hi, ow) else (0, v, hi, ow)))) := rfl
  have hok : (let u_2 : String × Int32 × StV × HiV := (f_X9_restore q v o hi); (if u_2.1 = "" then True else (if (f_X9_restore q v o hi).1 = "java/lang/IllegalStateException" then True else False))) := hok
  refine lv_aload_n hx hb dL_restore_0 rfl (lv_at hl 1 rfl) ?_
  refine lv_iconst (v := (0 : Int32)) hx hb dL_restore_1 (by decide) ?_
  refine lv_aload_n hx hb dL_restore_2 rfl (lv_at hl 0 rfl) ?_
  refine xw_V (own := RL) (cs := [[(qh0, .inr (11, [.ref (va 0), .ref (oa 0), .int q.1, .ref hih0, .ref q_program, .ref q_notice, .int q.2.1, .int q.2.2]))], wSt G va v, wSt G oa o, [(hih0, .inr (7, [.int hi.1, .int hi.2, .ref hi_rows]))]]) (rs := [[(owh, .inl (G.2.1 3, 1, .inr (.inl ow)))]]) (As := []) (rest := [.int (0 : Int32), .ref owh]) (c_X9_restoreS l hlf G qh0 q_program q_notice va oa hih0 hi_rows s.heap.size q v o hi) ⟨hx, hb, hml, hown, hts⟩ g_L_164 hdv_X9_restore hK hST hS hP hD hA [0, 1, 2, 3] [4] rfl rfl rfl (k0 := 0) rfl rfl rfl ⟨Nat.le_of_ble_eq_true rfl, Nat.le_of_ble_eq_true rfl⟩ ⟨Nat.le_of_ble_eq_true rfl, Nat.le_of_ble_eq_true rfl⟩ rfl hl.1 rfl (Nat.le_of_ble_eq_true rfl) dL_restore_3 (fun E ce q9 H locs hE hP hS h3 h4 h5 => ?_) (fun u_2 H locs huu hP hD hS => ?_)
  rotate_left
  obtain ⟨huu, b_1⟩ := huu
  rw [← huu] at b_1
  have eu_2 := huu
  have hP : va_P G.1 vwCl (fl [[(qh0, .inr (11, [.ref (va 0), .ref (oa 0), .int q.1, .ref hih0, .ref q_program, .ref q_notice, .int q.2.1, .int q.2.2]))], wSt G va u_2.2.2.1, wSt G oa o, [(hih0, .inr (7, [.int u_2.2.2.2.1, .int u_2.2.2.2.2, .ref hi_rows]))], [(owh, .inl (G.2.1 3, 1, .inr (.inl ow)))]]) H := hP
  have hD : va_D A (fl [[(qh0, .inr (11, [.ref (va 0), .ref (oa 0), .int q.1, .ref hih0, .ref q_program, .ref q_notice, .int q.2.1, .int q.2.2]))], wSt G va u_2.2.2.1, wSt G oa o, [(hih0, .inr (7, [.int u_2.2.2.2.1, .int u_2.2.2.2.2, .ref hi_rows]))], [(owh, .inl (G.2.1 3, 1, .inr (.inl ow)))]]) := hD
  refine W.eq (g2 := F0 m 6 ls [.int u_2.2.1, .int (0 : Int32), .ref owh]) rfl ?_
  have hE := b_1.1
  have hF : f_L_restore q v o hi ow = (if u_2.1 = "" then ((0 : Int32), u_2.2.2.1, u_2.2.2.2, (vp_updL ow (0 : Int32).toNatClampNeg u_2.2.1.toInt64)) else (if (f_X9_restore q v o hi).1 = "java/lang/IllegalStateException" then ((1 : Int32), v, hi, ow) else (0, v, hi, ow))) := by subst eu_2; exact hF
  have hF := hF.trans (if_pos hE)
  have hok : (if u_2.1 = "" then True else (if (f_X9_restore q v o hi).1 = "java/lang/IllegalStateException" then True else False)) := by subst eu_2; exact hok
  have hok := Eq.mp (if_pos hE) hok
  refine lv_i2l hx hb dL_restore_6 rfl ?_
  refine va_last hx hb hK hP hD hS 42 3 rfl rfl (vp_in_nI (n := 0) (by decide) (by decide)) dL_restore_7 (fun H locs hP hD hS => ?_)
  have hP : va_P G.1 vwCl (fl [[(qh0, .inr (11, [.ref (va 0), .ref (oa 0), .int q.1, .ref hih0, .ref q_program, .ref q_notice, .int q.2.1, .int q.2.2]))], wSt G va u_2.2.2.1, wSt G oa o, [(hih0, .inr (7, [.int u_2.2.2.2.1, .int u_2.2.2.2.2, .ref hi_rows]))], [(owh, .inl (G.2.1 3, 1, .inr (.inl (vp_updL ow (0 : Int32).toNatClampNeg u_2.2.1.toInt64))))]]) H := hP
  have hD : va_D A (fl [[(qh0, .inr (11, [.ref (va 0), .ref (oa 0), .int q.1, .ref hih0, .ref q_program, .ref q_notice, .int q.2.1, .int q.2.2]))], wSt G va u_2.2.2.1, wSt G oa o, [(hih0, .inr (7, [.int u_2.2.2.2.1, .int u_2.2.2.2.2, .ref hi_rows]))], [(owh, .inl (G.2.1 3, 1, .inr (.inl (vp_updL ow (0 : Int32).toNatClampNeg u_2.2.1.toInt64))))]]) := hD
  refine lv_goto (tgt := 14) hx hb dL_restore_8 (by decide) ?_
  refine lv_iconst (v := (0 : Int32)) hx hb dL_restore_14 (by decide) ?_
  exact w_ret (u := ((0 : Int32), u_2.2.2.1, u_2.2.2.2, (vp_updL ow (0 : Int32).toNatClampNeg u_2.2.1.toInt64))) hx hb hr hlk rfl hS rfl hF.symm hP hD (Nat.le_of_ble_eq_true rfl) (Nat.le_of_ble_eq_true rfl) dL_restore_15
  have hF := hF.trans (if_neg (fun e => hE.2 (hE.1.trans e)))
  have hok := Eq.mp (if_neg (fun e => hE.2 (hE.1.trans e))) hok
  by_cases c_3 : (f_X9_restore q v o hi).1 = "java/lang/IllegalStateException"
  · have hF := hF.trans (if_pos c_3)
    have hok := Eq.mp (if_pos c_3) hok
    have hEE : E = "java/lang/IllegalStateException" := hE.1.trans c_3
    subst hEE
    refine vx_catch (own := RL) (name := "java/lang/IllegalStateException") hown [] (⟨0, 8, 11, 15⟩ : ExceptionTableEntry) [] (hxt.trans rfl) (fun z hz => nomatch hz) (by decide) (by decide) (hts _ u_404) (va_tabs rfl rfl (hST.2.2.2.2.2.2.2.1 _ cst_IllegalStateException)) h3 h4 h5 ?_
    refine W.eq (g2 := F0 m 11 ls [.ref q9]) rfl ?_
    refine lv_astore_n (lv' := [(2, .ref q9), (0, .ref qh0), (1, .ref owh)]) hx hb dL_restore_11 rfl hl (by decide) rfl (fun ls hl => ?_)
    refine lv_iconst (v := (1 : Int32)) hx hb dL_restore_12 (by decide) ?_
    exact w_ret (u := ((1 : Int32), v, hi, ow)) hx hb hr hlk rfl hS rfl hF.symm hP hD (Nat.le_of_ble_eq_true rfl) (Nat.le_of_ble_eq_true rfl) dL_restore_13
  · have hF := hF.trans (if_neg c_3)
    have hok := Eq.mp (if_neg c_3) hok
    exact hok.elim
