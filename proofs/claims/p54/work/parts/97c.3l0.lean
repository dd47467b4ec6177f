theorem dL_does_0 : decode cL_does 0 = .ok (.iconst 0, 1) := by decide +kernel
theorem dL_does_1 : decode cL_does 1 = .ok (.istore_n 2, 1) := by decide +kernel
theorem dL_does_2 : decode cL_does 2 = .ok (.iconst 0, 1) := by decide +kernel
theorem dL_does_3 : decode cL_does 3 = .ok (.istore_n 3, 1) := by decide +kernel
theorem dL_does_4 : decode cL_does 4 = .ok (.iload_n 3, 1) := by decide +kernel
theorem dL_does_5 : decode cL_does 5 = .ok (.aload_n 1, 1) := by decide +kernel
theorem dL_does_6 : decode cL_does 6 = .ok (.invokevirtual 105, 3) := by decide +kernel
theorem u_1267 : Cond.methodLink RL 105 yJ0_length_8abf5 ∈ UW := uw 1267 (by decide +kernel) rfl
theorem g_L_105 : GoodIn UW (wsV RL 105 RJ0 yJ0_length_8abf5 (wsU yJ0_length_8abf5 cJ0_length_8abf5 1 (some .int))) := gV u_1267 u_277 u_278 u_31 u_279
theorem dL_does_9 : decode cL_does 9 = .ok (.if_icmp .ge 21, 3) := by decide +kernel
theorem dL_does_12 : decode cL_does 12 = .ok (.iload_n 2, 1) := by decide +kernel
theorem dL_does_13 : decode cL_does 13 = .ok (.aload_n 0, 1) := by decide +kernel
theorem dL_does_14 : decode cL_does 14 = .ok (.aload_n 1, 1) := by decide +kernel
theorem dL_does_15 : decode cL_does 15 = .ok (.iload_n 3, 1) := by decide +kernel
theorem dL_does_16 : decode cL_does 16 = .ok (.invokevirtual 110, 3) := by decide +kernel
theorem u_1268 : Cond.methodLink RL 110 yJ0_charAt_5068e ∈ UW := uw 1268 (by decide +kernel) rfl
theorem g_L_110 : GoodIn UW (wsV RL 110 RJ0 yJ0_charAt_5068e (wsU yJ0_charAt_5068e cJ0_charAt_5068e 2 (some .char))) := gV u_1268 u_1269 u_1270 u_31 u_1271
theorem dL_does_19 : decode cL_does 19 = .ok (.invokevirtual 114, 3) := by decide +kernel
theorem u_1283 : Cond.methodLink RL 114 yX9_type ∈ UW := uw 1283 (by decide +kernel) rfl
theorem u_1284 : Cond.instanceMethod yX9_type ∈ UW := uw 1284 (by decide +kernel) rfl
theorem u_1285 : Cond.selects RX9 yX9_type yX9_type ∈ UW := uw 1285 (by decide +kernel) rfl
theorem u_1286 : Cond.code yX9_type cX9_type 2 (some .int) ∈ UW := uw 1286 (by decide +kernel) rfl
theorem g_L_114 : GoodIn UW (wsV RL 114 RX9 yX9_type (wsU yX9_type cX9_type 2 (some .int))) := gV u_1283 u_1284 u_1285 u_21 u_1286
theorem hdv_X9_type : yX9_type.cls = RX9 ∧ yX9_type.cls ≠ "java/lang/invoke/MethodHandle" ∧ yX9_type.cls ≠ "java/lang/invoke/VarHandle" ∧ (parseMethodDescriptor yX9_type.desc).map (fun d => d.parameters.length) = some 1 := by decide +kernel
theorem dL_does_22 : decode cL_does 22 = .ok (.iadd, 1) := by decide +kernel
theorem dL_does_23 : decode cL_does 23 = .ok (.istore_n 2, 1) := by decide +kernel
theorem dL_does_24 : decode cL_does 24 = .ok (.iinc 3 1, 3) := by decide +kernel
theorem dL_does_27 : decode cL_does 27 = .ok (.goto (-23), 3) := by decide +kernel
theorem dL_does_30 : decode cL_does 30 = .ok (.iload_n 2, 1) := by decide +kernel
theorem dL_does_31 : decode cL_does 31 = .ok (.ifCond .ge 8, 3) := by decide +kernel
theorem dL_does_39 : decode cL_does 39 = .ok (.aload_n 0, 1) := by decide +kernel
theorem dL_does_40 : decode cL_does 40 = .ok (.invokestatic 119, 3) := by decide +kernel
theorem gh_L_119_c : Cond.codeWith yL_execute cL_execute 2 (some .int) [(0, 4, 5, 15), (0, 4, 9, 18)] ∈ UW := uw 1301 (by decide +kernel) rfl
theorem u_1299 : Cond.methodLink RL 119 yL_execute ∈ UW := uw 1299 (by decide +kernel) rfl
theorem u_1300 : Cond.static yL_execute ∈ UW := uw 1300 (by decide +kernel) rfl
theorem gh_L_119 : GoodIn UW (va_wsS RL 119 yL_execute (Cond.codeWith yL_execute cL_execute 2 (some .int) [(0, 4, 5, 15), (0, 4, 9, 18)] :: UW)) := gSH u_1299 u_1300 u_20 gh_L_119_c
theorem hds_L_execute : yL_execute.cls ≠ "java/lang/invoke/MethodHandle" ∧ yL_execute.cls ≠ "java/lang/invoke/VarHandle" ∧ (parseMethodDescriptor yL_execute.desc).map (fun d => d.parameters.length) = some 1 := by decide +kernel
theorem dL_does_43 : decode cL_does 43 = .ok (.ireturn, 1) := by decide +kernel
theorem dL_does_34 : decode cL_does 34 = .ok (.ldc 118, 2) := by decide +kernel
theorem u_1298 : Cond.constant RL 118 (-900009) ∈ UW := uw 1298 (by decide +kernel) rfl
theorem dL_does_36 : decode cL_does 36 = .ok (.goto 7, 3) := by decide +kernel
set_option maxHeartbeats 40000000 in
set_option maxRecDepth 100000 in
set_option linter.constructorNameAsVariable false in
theorem c_L_does (l : Launch) (hlf : l.stackTraces = false) (G : GG) (qh0 : Nat) (q_snapshot : Nat) (q_notice : Nat) (va : Nat → Nat) (hih0 : Nat) (hsh : Nat) (hsa : Nat → Nat → Nat) (pgh0 : Nat) (tbh0 : Nat) (tbh1 : Nat) (tjh0 : Nat) (tjh1 : Nat) (sz : Nat) (q : McV) (v : StV) (hi : HiV) (hs : Nat → StV) (pg : PrV) (tb : SbV) (tj : TxV) (hok : ok_L_does q v hi hs pg tb tj) (hyp_nx : nx9 hi.2) : wMet l yL_does cL_does 4 (some .int) 13 82 8446 G (fl [[(qh0, .inr (11, [.ref (va 0), .ref q_snapshot, .int q.1, .ref hih0, .ref pgh0, .ref q_notice, .int q.2.1, .int q.2.2]))], wSt G va v, [(hih0, .inr (7, [.int hi.1, .int hi.2, .ref hsh]))], wHs G hsh hsa hs, [(pgh0, .inr (9, [.int pg.1, .int pg.2.1, .int pg.2.2.1, .int pg.2.2.2, .ref tbh0]))], [(tbh0, .inr (1, [.ref tbh1, .int (0 : Int32), .int tb.2.2.1, .int tb.2.2.2]))], [(tbh1, .inl (G.2.1 2, tb.1, .inl tb.2.1))], [(tjh0, .inr (0, [.ref tjh1, .int (0 : Int32), .int (0 : Int32), .int (0 : Int32)]))], [(tjh1, .inl (G.2.1 2, tj.1, .inl tj.2))]]) [.ref qh0, .ref tjh0] sz (fun u : Nat × Int32 × McV × StV × HiV × (Nat → StV) × PrV × SbV => some (.int u.2.1)) (fun u : Nat × Int32 × McV × StV × HiV × (Nat → StV) × PrV × SbV => u.2 = f_L_does q v hi hs pg tb tj) (fun u : Nat × Int32 × McV × StV × HiV × (Nat → StV) × PrV × SbV => fl [[(qh0, .inr (11, [.ref (va 0), .ref q_snapshot, .int u.2.2.1.1, .ref hih0, .ref pgh0, .ref q_notice, .int u.2.2.1.2.1, .int u.2.2.1.2.2]))], wSt G va u.2.2.2.1, [(hih0, .inr (7, [.int u.2.2.2.2.1.1, .int u.2.2.2.2.1.2, .ref hsh]))], wHs G hsh hsa u.2.2.2.2.2.1, [(pgh0, .inr (9, [.int u.2.2.2.2.2.2.1.1, .int u.2.2.2.2.2.2.1.2.1, .int u.2.2.2.2.2.2.1.2.2.1, .int u.2.2.2.2.2.2.1.2.2.2, .ref tbh0]))], [(tbh0, .inr (1, [.ref u.1, .int (0 : Int32), .int u.2.2.2.2.2.2.2.2.2.1, .int u.2.2.2.2.2.2.2.2.2.2]))], [(u.1, .inl (G.2.1 2, u.2.2.2.2.2.2.2.1, .inl u.2.2.2.2.2.2.2.2.1))], [(tjh0, .inr (0, [.ref tjh1, .int (0 : Int32), .int (0 : Int32), .int (0 : Int32)]))], [(tjh1, .inl (G.2.1 2, tj.1, .inl tj.2))]]) := by
  refine w_start (by decide +kernel) (Nat.le_of_ble_eq_true rfl) ?_
  intro p e s m below meth c A hx hb hr hml hts hown hlk hin hP hD hA hK hST ls hl
  have hS : va_S A s.heap s.heap [] := va_S.rf
  have hown : s.vm.findClass RL = some m.cls := hown
  have hl : lv_has ls 4 [(0, .ref qh0), (1, .ref tjh0)] := hl
  have hF : f_L_does q v hi hs pg tb tj = (let r_9 : Int32 × Int32 × SbV := (lp_L_does_4 q v hi hs pg tb tj 40 (0 : Int32) (0 : Int32) tb); (if (0 : Int32) ≤ r_9.2.1 then (let uu_13 : Int32 × McV × StV × HiV × (Nat → StV) × PrV × SbV := (f_L_execute q v hi hs pg r_9.2.2); (uu_13.1, uu_13.2.1, uu_13.2.2.1, uu_13.2.2.2.1, uu_13.2.2.2.2.1, uu_13.2.2.2.2.2.1, uu_13.2.2.2.2.2.2)) else ((-900009 : Int32), q, v, hi, hs, pg, r_9.2.2))) := rfl
  have hok : (okl_lp_L_does_4 q v hi hs pg tb tj 40 (0 : Int32) (0 : Int32) tb ∧ (∀ r_9 : Int32 × Int32 × SbV, r_9 = (lp_L_does_4 q v hi hs pg tb tj 40 (0 : Int32) (0 : Int32) tb) → (if (0 : Int32) ≤ r_9.2.1 then (ok_L_execute q v hi hs pg r_9.2.2 ∧ True) else True))) := hok
  refine lv_iconst (v := (0 : Int32)) hx hb dL_does_0 (by decide) ?_
  refine lv_istore_n (lv' := [(2, .int (0 : Int32)), (0, .ref qh0), (1, .ref tjh0)]) hx hb dL_does_1 rfl hl (by decide) rfl (fun ls hl => ?_)
  refine lv_iconst (v := (0 : Int32)) hx hb dL_does_2 (by decide) ?_
  refine lv_istore_n (lv' := [(3, .int (0 : Int32)), (2, .int (0 : Int32)), (0, .ref qh0), (1, .ref tjh0)]) hx hb dL_does_3 rfl hl (by decide) rfl (fun ls hl => ?_)
  have hkI := hok.1
  have hok := hok.2
  have K4 : ∀ (r_9 : Int32 × Int32 × SbV), r_9 = (lp_L_does_4 q v hi hs pg tb tj 40 (0 : Int32) (0 : Int32) tb) → ∀ (tbLk : Nat) (H : Heap) (locs : List Loc), ∀ (ls : Array Slot), lv_has ls 4 [(3, .int r_9.1), (2, .int r_9.2.1), (0, .ref qh0), (1, .ref tjh0)] → va_P G.1 vwCl (fl [[(qh0, .inr (11, [.ref (va 0), .ref q_snapshot, .int q.1, .ref hih0, .ref pgh0, .ref q_notice, .int q.2.1, .int q.2.2]))], wSt G va v, [(hih0, .inr (7, [.int hi.1, .int hi.2, .ref hsh]))], wHs G hsh hsa hs, [(pgh0, .inr (9, [.int pg.1, .int pg.2.1, .int pg.2.2.1, .int pg.2.2.2, .ref tbh0]))], [(tbh0, .inr (1, [.ref tbLk, .int (0 : Int32), .int r_9.2.2.2.2.1, .int r_9.2.2.2.2.2]))], [(tbLk, .inl (G.2.1 2, r_9.2.2.1, .inl r_9.2.2.2.1))], [(tjh0, .inr (0, [.ref tjh1, .int (0 : Int32), .int (0 : Int32), .int (0 : Int32)]))], [(tjh1, .inl (G.2.1 2, tj.1, .inl tj.2))]]) H → va_D A (fl [[(qh0, .inr (11, [.ref (va 0), .ref q_snapshot, .int q.1, .ref hih0, .ref pgh0, .ref q_notice, .int q.2.1, .int q.2.2]))], wSt G va v, [(hih0, .inr (7, [.int hi.1, .int hi.2, .ref hsh]))], wHs G hsh hsa hs, [(pgh0, .inr (9, [.int pg.1, .int pg.2.1, .int pg.2.2.1, .int pg.2.2.2, .ref tbh0]))], [(tbh0, .inr (1, [.ref tbLk, .int (0 : Int32), .int r_9.2.2.2.2.1, .int r_9.2.2.2.2.2]))], [(tbLk, .inl (G.2.1 2, r_9.2.2.1, .inl r_9.2.2.2.1))], [(tjh0, .inr (0, [.ref tjh1, .int (0 : Int32), .int (0 : Int32), .int (0 : Int32)]))], [(tjh1, .inl (G.2.1 2, tj.1, .inl tj.2))]]) → va_S A s.heap H locs → W p l e (rmd 13 82 8446) s m ([.ref qh0, .ref tjh0] : List Value).toArray below meth c H locs (80) (8240) (MQ below (wQ (fun u : Nat × Int32 × McV × StV × HiV × (Nat → StV) × PrV × SbV => some (.int u.2.1)) (fun u : Nat × Int32 × McV × StV × HiV × (Nat → StV) × PrV × SbV => u.2 = f_L_does q v hi hs pg tb tj) (fun u : Nat × Int32 × McV × StV × HiV × (Nat → StV) × PrV × SbV => fl [[(qh0, .inr (11, [.ref (va 0), .ref q_snapshot, .int u.2.2.1.1, .ref hih0, .ref pgh0, .ref q_notice, .int u.2.2.1.2.1, .int u.2.2.1.2.2]))], wSt G va u.2.2.2.1, [(hih0, .inr (7, [.int u.2.2.2.2.1.1, .int u.2.2.2.2.1.2, .ref hsh]))], wHs G hsh hsa u.2.2.2.2.2.1, [(pgh0, .inr (9, [.int u.2.2.2.2.2.2.1.1, .int u.2.2.2.2.2.2.1.2.1, .int u.2.2.2.2.2.2.1.2.2.1, .int u.2.2.2.2.2.2.1.2.2.2, .ref tbh0]))], [(tbh0, .inr (1, [.ref u.1, .int (0 : Int32), .int u.2.2.2.2.2.2.2.2.2.1, .int u.2.2.2.2.2.2.2.2.2.2]))], [(u.1, .inl (G.2.1 2, u.2.2.2.2.2.2.2.1, .inl u.2.2.2.2.2.2.2.2.1))], [(tjh0, .inr (0, [.ref tjh1, .int (0 : Int32), .int (0 : Int32), .int (0 : Int32)]))], [(tjh1, .inl (G.2.1 2, tj.1, .inl tj.2))]]) G.1 A) ([.ref qh0, .ref tjh0] : List Value).toArray s 82 8446 A) (F0 m 30 ls []) := by
    intro r_9 er_9 tbLk H locs ls hl hP hD hS
    have hF : f_L_does q v hi hs pg tb tj = (if (0 : Int32) ≤ r_9.2.1 then (let uu_13 : Int32 × McV × StV × HiV × (Nat → StV) × PrV × SbV := (f_L_execute q v hi hs pg r_9.2.2); (uu_13.1, uu_13.2.1, uu_13.2.2.1, uu_13.2.2.2.1, uu_13.2.2.2.2.1, uu_13.2.2.2.2.2.1, uu_13.2.2.2.2.2.2)) else ((-900009 : Int32), q, v, hi, hs, pg, r_9.2.2)) := by subst er_9; exact hF
    have hok : (if (0 : Int32) ≤ r_9.2.1 then (ok_L_execute q v hi hs pg r_9.2.2 ∧ True) else True) := hok _ er_9
    refine lv_iload_n hx hb dL_does_30 rfl (lv_at hl 1 rfl) ?_
    refine lv_if_ge (tgt := 39) hx hb dL_does_31 (by decide) (fun c_10 => ?_) (fun c_10 => ?_)
    · have hF := hF.trans (if_pos c_10)
      have hok := Eq.mp (if_pos c_10) hok
      refine lv_aload_n hx hb dL_does_39 rfl (lv_at hl 2 rfl) ?_
      have k_11 := hok.1
      have hok := hok.2
      refine w_SH (own := RL) (cs := [[(qh0, .inr (11, [.ref (va 0), .ref q_snapshot, .int q.1, .ref hih0, .ref pgh0, .ref q_notice, .int q.2.1, .int q.2.2]))], wSt G va v, [(hih0, .inr (7, [.int hi.1, .int hi.2, .ref hsh]))], wHs G hsh hsa hs, [(pgh0, .inr (9, [.int pg.1, .int pg.2.1, .int pg.2.2.1, .int pg.2.2.2, .ref tbh0]))], [(tbh0, .inr (1, [.ref tbLk, .int (0 : Int32), .int r_9.2.2.2.2.1, .int r_9.2.2.2.2.2]))], [(tbLk, .inl (G.2.1 2, r_9.2.2.1, .inl r_9.2.2.2.1))]]) (rs := [[(tjh0, .inr (0, [.ref tjh1, .int (0 : Int32), .int (0 : Int32), .int (0 : Int32)]))], [(tjh1, .inl (G.2.1 2, tj.1, .inl tj.2))]]) (As := [.ref qh0]) (rest := []) (c_L_execute l hlf G qh0 q_snapshot q_notice va hih0 hsh hsa pgh0 tbh0 tbLk H.size q v hi hs pg r_9.2.2 k_11) ⟨hx, hb, hml, hown, hts⟩ gh_L_119 hds_L_execute hK hST hS hP hD hA [0, 1, 2, 3, 4, 5, 6] [7, 8] rfl rfl rfl ⟨Nat.le_of_ble_eq_true rfl, Nat.le_of_ble_eq_true rfl⟩ ⟨Nat.le_of_ble_eq_true rfl, Nat.le_of_ble_eq_true rfl⟩ rfl hl.1 rfl (Nat.le_of_ble_eq_true rfl) dL_does_40 (fun uu_13 H locs huu hP hD hS => ?_)
      obtain ⟨quu_13, uu_13⟩ := uu_13
      have euu_13 : uu_13 = (f_L_execute q v hi hs pg r_9.2.2) := huu
      have hP : va_P G.1 vwCl (fl [[(qh0, .inr (11, [.ref (va 0), .ref q_snapshot, .int uu_13.2.1.1, .ref hih0, .ref pgh0, .ref q_notice, .int uu_13.2.1.2.1, .int uu_13.2.1.2.2]))], wSt G va uu_13.2.2.1, [(hih0, .inr (7, [.int uu_13.2.2.2.1.1, .int uu_13.2.2.2.1.2, .ref hsh]))], wHs G hsh hsa uu_13.2.2.2.2.1, [(pgh0, .inr (9, [.int uu_13.2.2.2.2.2.1.1, .int uu_13.2.2.2.2.2.1.2.1, .int uu_13.2.2.2.2.2.1.2.2.1, .int uu_13.2.2.2.2.2.1.2.2.2, .ref tbh0]))], [(tbh0, .inr (1, [.ref quu_13, .int (0 : Int32), .int uu_13.2.2.2.2.2.2.2.2.1, .int uu_13.2.2.2.2.2.2.2.2.2]))], [(quu_13, .inl (G.2.1 2, uu_13.2.2.2.2.2.2.1, .inl uu_13.2.2.2.2.2.2.2.1))], [(tjh0, .inr (0, [.ref tjh1, .int (0 : Int32), .int (0 : Int32), .int (0 : Int32)]))], [(tjh1, .inl (G.2.1 2, tj.1, .inl tj.2))]]) H := hP
      have hD : va_D A (fl [[(qh0, .inr (11, [.ref (va 0), .ref q_snapshot, .int uu_13.2.1.1, .ref hih0, .ref pgh0, .ref q_notice, .int uu_13.2.1.2.1, .int uu_13.2.1.2.2]))], wSt G va uu_13.2.2.1, [(hih0, .inr (7, [.int uu_13.2.2.2.1.1, .int uu_13.2.2.2.1.2, .ref hsh]))], wHs G hsh hsa uu_13.2.2.2.2.1, [(pgh0, .inr (9, [.int uu_13.2.2.2.2.2.1.1, .int uu_13.2.2.2.2.2.1.2.1, .int uu_13.2.2.2.2.2.1.2.2.1, .int uu_13.2.2.2.2.2.1.2.2.2, .ref tbh0]))], [(tbh0, .inr (1, [.ref quu_13, .int (0 : Int32), .int uu_13.2.2.2.2.2.2.2.2.1, .int uu_13.2.2.2.2.2.2.2.2.2]))], [(quu_13, .inl (G.2.1 2, uu_13.2.2.2.2.2.2.1, .inl uu_13.2.2.2.2.2.2.2.1))], [(tjh0, .inr (0, [.ref tjh1, .int (0 : Int32), .int (0 : Int32), .int (0 : Int32)]))], [(tjh1, .inl (G.2.1 2, tj.1, .inl tj.2))]]) := hD
      refine W.eq (g2 := F0 m 43 ls [.int uu_13.1]) rfl ?_
      have hF : f_L_does q v hi hs pg tb tj = (uu_13.1, uu_13.2.1, uu_13.2.2.1, uu_13.2.2.2.1, uu_13.2.2.2.2.1, uu_13.2.2.2.2.2.1, uu_13.2.2.2.2.2.2) := hF.trans (by rw [euu_13])
      exact w_ret (u := (quu_13, (uu_13.1, uu_13.2.1, uu_13.2.2.1, uu_13.2.2.2.1, uu_13.2.2.2.2.1, uu_13.2.2.2.2.2.1, uu_13.2.2.2.2.2.2))) hx hb hr hlk rfl hS rfl hF.symm hP hD (Nat.le_of_ble_eq_true rfl) (Nat.le_of_ble_eq_true rfl) dL_does_43
    · have hF := hF.trans (if_neg c_10)
      have hok := Eq.mp (if_neg c_10) hok
      refine lv_ldc hx hb hown (hts _ u_1298) dL_does_34 ?_
      refine lv_goto (tgt := 43) hx hb dL_does_36 (by decide) ?_
      exact w_ret (u := (tbLk, ((-900009 : Int32), q, v, hi, hs, pg, r_9.2.2))) hx hb hr hlk rfl hS rfl hF.symm hP hD (Nat.le_of_ble_eq_true rfl) (Nat.le_of_ble_eq_true rfl) dL_does_43
  have L4 : ∀ (n : Nat) (x3 : Int32) (x2 : Int32) (tbL : SbV) (tbLq : Nat) (H : Heap) (locs : List Loc) (kc_4 ks_4 : Nat) (ls : Array Slot), lv_has ls 4 [(3, .int x3), (2, .int x2), (0, .ref qh0), (1, .ref tjh0)] → va_P G.1 vwCl (fl [[(qh0, .inr (11, [.ref (va 0), .ref q_snapshot, .int q.1, .ref hih0, .ref pgh0, .ref q_notice, .int q.2.1, .int q.2.2]))], wSt G va v, [(hih0, .inr (7, [.int hi.1, .int hi.2, .ref hsh]))], wHs G hsh hsa hs, [(pgh0, .inr (9, [.int pg.1, .int pg.2.1, .int pg.2.2.1, .int pg.2.2.2, .ref tbh0]))], [(tbh0, .inr (1, [.ref tbLq, .int (0 : Int32), .int tbL.2.2.1, .int tbL.2.2.2]))], [(tbLq, .inl (G.2.1 2, tbL.1, .inl tbL.2.1))], [(tjh0, .inr (0, [.ref tjh1, .int (0 : Int32), .int (0 : Int32), .int (0 : Int32)]))], [(tjh1, .inl (G.2.1 2, tj.1, .inl tj.2))]]) H → va_D A (fl [[(qh0, .inr (11, [.ref (va 0), .ref q_snapshot, .int q.1, .ref hih0, .ref pgh0, .ref q_notice, .int q.2.1, .int q.2.2]))], wSt G va v, [(hih0, .inr (7, [.int hi.1, .int hi.2, .ref hsh]))], wHs G hsh hsa hs, [(pgh0, .inr (9, [.int pg.1, .int pg.2.1, .int pg.2.2.1, .int pg.2.2.2, .ref tbh0]))], [(tbh0, .inr (1, [.ref tbLq, .int (0 : Int32), .int tbL.2.2.1, .int tbL.2.2.2]))], [(tbLq, .inl (G.2.1 2, tbL.1, .inl tbL.2.1))], [(tjh0, .inr (0, [.ref tjh1, .int (0 : Int32), .int (0 : Int32), .int (0 : Int32)]))], [(tjh1, .inl (G.2.1 2, tj.1, .inl tj.2))]]) → va_S A s.heap H locs → kc_4 + n * 2 ≤ (0) + 80 → ks_4 + n * 206 ≤ (0) + 8240 → (lp_L_does_4 q v hi hs pg tb tj 40 (0 : Int32) (0 : Int32) tb) = lp_L_does_4 q v hi hs pg tb tj n x3 x2 tbL → okl_lp_L_does_4 q v hi hs pg tb tj n x3 x2 tbL → W p l e (rmd 13 82 8446) s m ([.ref qh0, .ref tjh0] : List Value).toArray below meth c H locs kc_4 ks_4 (MQ below (wQ (fun u : Nat × Int32 × McV × StV × HiV × (Nat → StV) × PrV × SbV => some (.int u.2.1)) (fun u : Nat × Int32 × McV × StV × HiV × (Nat → StV) × PrV × SbV => u.2 = f_L_does q v hi hs pg tb tj) (fun u : Nat × Int32 × McV × StV × HiV × (Nat → StV) × PrV × SbV => fl [[(qh0, .inr (11, [.ref (va 0), .ref q_snapshot, .int u.2.2.1.1, .ref hih0, .ref pgh0, .ref q_notice, .int u.2.2.1.2.1, .int u.2.2.1.2.2]))], wSt G va u.2.2.2.1, [(hih0, .inr (7, [.int u.2.2.2.2.1.1, .int u.2.2.2.2.1.2, .ref hsh]))], wHs G hsh hsa u.2.2.2.2.2.1, [(pgh0, .inr (9, [.int u.2.2.2.2.2.2.1.1, .int u.2.2.2.2.2.2.1.2.1, .int u.2.2.2.2.2.2.1.2.2.1, .int u.2.2.2.2.2.2.1.2.2.2, .ref tbh0]))], [(tbh0, .inr (1, [.ref u.1, .int (0 : Int32), .int u.2.2.2.2.2.2.2.2.2.1, .int u.2.2.2.2.2.2.2.2.2.2]))], [(u.1, .inl (G.2.1 2, u.2.2.2.2.2.2.2.1, .inl u.2.2.2.2.2.2.2.2.1))], [(tjh0, .inr (0, [.ref tjh1, .int (0 : Int32), .int (0 : Int32), .int (0 : Int32)]))], [(tjh1, .inl (G.2.1 2, tj.1, .inl tj.2))]]) G.1 A) ([.ref qh0, .ref tjh0] : List Value).toArray s 82 8446 A) (F0 m 4 ls []) := by
    intro n
    induction n with
    | zero => intro x3 x2 tbL tbLq H locs kc_4 ks_4 ls hl _ _ _ _ _ hI hok; exact hok.elim
    | succ n ih =>
      intro x3 x2 tbL tbLq H locs kc_4 ks_4 ls hl hP hD hS hkc_4 hks_4 hI hok
      have hI : (lp_L_does_4 q v hi hs pg tb tj 40 (0 : Int32) (0 : Int32) tb) = (if (f_J0_length_8abf5T tj) ≤ x3 then (x3, x2, tbL) else (let uu_8 : String × Int32 × SbV := (f_X9_type q pg tbL (f_J0_charAt_5068eT tj x3)); (lp_L_does_4 q v hi hs pg tb tj n (x3 + 1) (x2 + uu_8.2.1) uu_8.2.2))) := hI
      have hok : (if (f_J0_length_8abf5T tj) ≤ x3 then True else (ok_J0_charAt_5068eT tj x3 ∧ (ok_X9_type q pg tbL (f_J0_charAt_5068eT tj x3) ∧ ((f_X9_type q pg tbL (f_J0_charAt_5068eT tj x3)).1 = "" ∧ (∀ uu_8 : String × Int32 × SbV, uu_8 = (f_X9_type q pg tbL (f_J0_charAt_5068eT tj x3)) → (okl_lp_L_does_4 q v hi hs pg tb tj n (x3 + 1) (x2 + uu_8.2.1) uu_8.2.2)))))) := hok
      refine lv_iload_n hx hb dL_does_4 rfl (lv_at hl 0 rfl) ?_
      refine lv_aload_n hx hb dL_does_5 rfl (lv_at hl 3 rfl) ?_
      refine r_V (own := RL) (v := (some (.int (f_J0_length_8abf5T tj)))) (st1 := [.int (f_J0_length_8abf5T tj), .int x3]) (As := []) (rest := [.int x3]) (c_J0_length_8abf5T l G tjh0 tjh1 tj) ⟨hx, hb, hml, hown, hts⟩ g_L_105 hdv_J0_length_8abf5 hK hST hS hP [206, 207] rfl (k0 := 0) rfl rfl rfl ⟨Nat.le_of_ble_eq_true rfl, Nat.le_of_ble_eq_true rfl⟩ ⟨(by show _ ≤ 82; omega), (by show _ ≤ 8446; omega)⟩ rfl hl.1 rfl (Nat.le_of_ble_eq_true rfl) dL_does_6 rfl (fun b_1 => ?_)
      refine lv_icmp_ge (tgt := 30) hx hb dL_does_9 (by decide) (fun c_2 => ?_) (fun c_2 => ?_)
      · have hI := hI.trans (if_pos c_2)
        have hok := Eq.mp (if_pos c_2) hok
        refine W.widen (k := (80)) (n := (8240)) (by omega) (by omega) ?_
        exact K4 _ hI.symm tbLq _ _ ls (lv_sub hl [0, 1, 2, 3] rfl) hP hD hS
      · have hI := hI.trans (if_neg c_2)
        have hok := Eq.mp (if_neg c_2) hok
        refine lv_iload_n hx hb dL_does_12 rfl (lv_at hl 1 rfl) ?_
        refine lv_aload_n hx hb dL_does_13 rfl (lv_at hl 2 rfl) ?_
        refine lv_aload_n hx hb dL_does_14 rfl (lv_at hl 3 rfl) ?_
        refine lv_iload_n hx hb dL_does_15 rfl (lv_at hl 0 rfl) ?_
        have k_3 := hok.1
        have hok := hok.2
        refine r_V (own := RL) (v := (some (.int (f_J0_charAt_5068eT tj x3)))) (st1 := [.int (f_J0_charAt_5068eT tj x3), .ref qh0, .int x2]) (As := [.int x3]) (rest := [.ref qh0, .int x2]) (c_J0_charAt_5068eT l G tjh0 tjh1 tj x3 k_3) ⟨hx, hb, hml, hown, hts⟩ g_L_110 hdv_J0_charAt_5068e hK hST hS hP [206, 207] rfl (k0 := 0) rfl rfl rfl ⟨Nat.le_of_ble_eq_true rfl, Nat.le_of_ble_eq_true rfl⟩ ⟨(by show _ ≤ 82; omega), (by show _ ≤ 8446; omega)⟩ rfl hl.1 rfl (Nat.le_of_ble_eq_true rfl) dL_does_16 rfl (fun b_4 => ?_)
        have k_5 := hok.1
        have hok := hok.2
        have h_7 := hok.1
        have hok := hok.2
        refine xw_V (own := RL) (cs := [[(qh0, .inr (11, [.ref (va 0), .ref q_snapshot, .int q.1, .ref hih0, .ref pgh0, .ref q_notice, .int q.2.1, .int q.2.2]))], [(pgh0, .inr (9, [.int pg.1, .int pg.2.1, .int pg.2.2.1, .int pg.2.2.2, .ref tbh0]))], [(tbh0, .inr (1, [.ref tbLq, .int (0 : Int32), .int tbL.2.2.1, .int tbL.2.2.2]))], [(tbLq, .inl (G.2.1 2, tbL.1, .inl tbL.2.1))]]) (rs := [wSt G va v, [(hih0, .inr (7, [.int hi.1, .int hi.2, .ref hsh]))], wHs G hsh hsa hs, [(tjh0, .inr (0, [.ref tjh1, .int (0 : Int32), .int (0 : Int32), .int (0 : Int32)]))], [(tjh1, .inl (G.2.1 2, tj.1, .inl tj.2))]]) (As := [.int (f_J0_charAt_5068eT tj x3)]) (rest := [.int x2]) (c_X9_type l hlf G qh0 (va 0) q_snapshot hih0 q_notice pgh0 tbh0 tbLq H.size q pg tbL (f_J0_charAt_5068eT tj x3) k_5) ⟨hx, hb, hml, hown, hts⟩ g_L_114 hdv_X9_type hK hST hS hP hD hA [0, 4, 5, 6] [1, 2, 3, 7, 8] rfl rfl rfl (k0 := 0) rfl rfl rfl ⟨Nat.le_of_ble_eq_true rfl, Nat.le_of_ble_eq_true rfl⟩ ⟨(by show _ ≤ 82; omega), (by show _ ≤ 8446; omega)⟩ rfl hl.1 rfl (Nat.le_of_ble_eq_true rfl) dL_does_19 (fun E ce q9 H locs hE hP hS h3 h4 h5 => absurd (hE.1.trans h_7) hE.2) (fun uu_8 H locs huu hP hD hS => ?_)
        obtain ⟨quu_8, uu_8⟩ := uu_8
        obtain ⟨huu, b_6⟩ := huu
        have huu : uu_8 = (f_X9_type q pg tbL (f_J0_charAt_5068eT tj x3)) := huu
        rw [← huu] at b_6
        have euu_8 : uu_8 = (f_X9_type q pg tbL (f_J0_charAt_5068eT tj x3)) := huu
        have hP : va_P G.1 vwCl (fl [[(qh0, .inr (11, [.ref (va 0), .ref q_snapshot, .int q.1, .ref hih0, .ref pgh0, .ref q_notice, .int q.2.1, .int q.2.2]))], [(pgh0, .inr (9, [.int pg.1, .int pg.2.1, .int pg.2.2.1, .int pg.2.2.2, .ref tbh0]))], [(tbh0, .inr (1, [.ref quu_8, .int (0 : Int32), .int uu_8.2.2.2.2.1, .int uu_8.2.2.2.2.2]))], [(quu_8, .inl (G.2.1 2, uu_8.2.2.1, .inl uu_8.2.2.2.1))], wSt G va v, [(hih0, .inr (7, [.int hi.1, .int hi.2, .ref hsh]))], wHs G hsh hsa hs, [(tjh0, .inr (0, [.ref tjh1, .int (0 : Int32), .int (0 : Int32), .int (0 : Int32)]))], [(tjh1, .inl (G.2.1 2, tj.1, .inl tj.2))]]) H := hP
        have hD : va_D A (fl [[(qh0, .inr (11, [.ref (va 0), .ref q_snapshot, .int q.1, .ref hih0, .ref pgh0, .ref q_notice, .int q.2.1, .int q.2.2]))], [(pgh0, .inr (9, [.int pg.1, .int pg.2.1, .int pg.2.2.1, .int pg.2.2.2, .ref tbh0]))], [(tbh0, .inr (1, [.ref quu_8, .int (0 : Int32), .int uu_8.2.2.2.2.1, .int uu_8.2.2.2.2.2]))], [(quu_8, .inl (G.2.1 2, uu_8.2.2.1, .inl uu_8.2.2.2.1))], wSt G va v, [(hih0, .inr (7, [.int hi.1, .int hi.2, .ref hsh]))], wHs G hsh hsa hs, [(tjh0, .inr (0, [.ref tjh1, .int (0 : Int32), .int (0 : Int32), .int (0 : Int32)]))], [(tjh1, .inl (G.2.1 2, tj.1, .inl tj.2))]]) := hD
        refine W.eq (g2 := F0 m 22 ls [.int uu_8.2.1, .int x2]) rfl ?_
        have hI : (lp_L_does_4 q v hi hs pg tb tj 40 (0 : Int32) (0 : Int32) tb) = (lp_L_does_4 q v hi hs pg tb tj n (x3 + 1) (x2 + uu_8.2.1) uu_8.2.2) := by subst euu_8; exact hI
        have hok : (okl_lp_L_does_4 q v hi hs pg tb tj n (x3 + 1) (x2 + uu_8.2.1) uu_8.2.2) := hok _ euu_8
        refine lv_iadd hx hb dL_does_22 ?_
        refine lv_istore_n (lv' := [(2, .int (x2 + uu_8.2.1)), (3, .int x3), (0, .ref qh0), (1, .ref tjh0)]) hx hb dL_does_23 rfl hl (by decide) rfl (fun ls hl => ?_)
        refine lv_iinc (v := (x3 + 1)) (lv' := [(3, .int (x3 + 1)), (2, .int (x2 + uu_8.2.1)), (0, .ref qh0), (1, .ref tjh0)]) hx hb dL_does_24 hl (k := 1) rfl rfl (by decide) rfl (fun ls hl => ?_)
        refine lv_goto (tgt := 4) hx hb dL_does_27 (by decide) ?_
        have hP := fl_sub (cs := [[(qh0, .inr (11, [.ref (va 0), .ref q_snapshot, .int q.1, .ref hih0, .ref pgh0, .ref q_notice, .int q.2.1, .int q.2.2]))], wSt G va v, [(hih0, .inr (7, [.int hi.1, .int hi.2, .ref hsh]))], wHs G hsh hsa hs, [(pgh0, .inr (9, [.int pg.1, .int pg.2.1, .int pg.2.2.1, .int pg.2.2.2, .ref tbh0]))], [(tbh0, .inr (1, [.ref quu_8, .int (0 : Int32), .int uu_8.2.2.2.2.1, .int uu_8.2.2.2.2.2]))], [(quu_8, .inl (G.2.1 2, uu_8.2.2.1, .inl uu_8.2.2.2.1))], [(tjh0, .inr (0, [.ref tjh1, .int (0 : Int32), .int (0 : Int32), .int (0 : Int32)]))], [(tjh1, .inl (G.2.1 2, tj.1, .inl tj.2))]]) [0, 4, 5, 6, 1, 2, 3, 7, 8] rfl hP
        have hD := fl_subD (cs := [[(qh0, .inr (11, [.ref (va 0), .ref q_snapshot, .int q.1, .ref hih0, .ref pgh0, .ref q_notice, .int q.2.1, .int q.2.2]))], wSt G va v, [(hih0, .inr (7, [.int hi.1, .int hi.2, .ref hsh]))], wHs G hsh hsa hs, [(pgh0, .inr (9, [.int pg.1, .int pg.2.1, .int pg.2.2.1, .int pg.2.2.2, .ref tbh0]))], [(tbh0, .inr (1, [.ref quu_8, .int (0 : Int32), .int uu_8.2.2.2.2.1, .int uu_8.2.2.2.2.2]))], [(quu_8, .inl (G.2.1 2, uu_8.2.2.1, .inl uu_8.2.2.2.1))], [(tjh0, .inr (0, [.ref tjh1, .int (0 : Int32), .int (0 : Int32), .int (0 : Int32)]))], [(tjh1, .inl (G.2.1 2, tj.1, .inl tj.2))]]) [0, 4, 5, 6, 1, 2, 3, 7, 8] rfl rfl hD
        exact ih (x3 + 1) (x2 + uu_8.2.1) uu_8.2.2 quu_8 _ _ _ _ ls (lv_sub hl [0, 1, 2, 3] rfl) hP hD hS (by omega) (by omega) hI hok
  refine W.widen (k := (0)) (n := (0)) (Nat.le_of_ble_eq_true rfl) (Nat.le_of_ble_eq_true rfl) ?_
  exact L4 40 (0 : Int32) (0 : Int32) tb tbh1 _ _ (0) (0) ls (lv_sub hl [0, 1, 2, 3] rfl) hP hD hS (Nat.le_refl _) (Nat.le_refl _) rfl hkI
