/-! ===== throws behind a change ===== -/
abbrev xxMet {S : Type} (l : Launch) (y : MethodName) (b : ByteArray) (n : Nat) (ret : Option FieldType) (d mc ms : Nat) (G : GG) (ws : va_W) (av : List Value) (sz : Nat) (val : S → Option Value) (ok : S → Prop) (W1 : S → va_W) (okx : String → S → Prop) : Prop := vx_Met l y (wsU y b n ret) (rmd d mc ms) (wPc G ws av sz) (wQ val ok W1 G.1 (va_A ws sz)) (xW okx W1 G.1 (va_A ws sz)) mc ms (va_A ws sz)
theorem xx_start {S : Type} {l : Launch} {y : MethodName} {b : ByteArray} {n : Nat} {ret : Option FieldType} {d mc ms : Nat} {G : GG} {ws : va_W} {av : List Value} {sz : Nat} {val : S → Option Value} {ok : S → Prop} {W1 : S → va_W} {okx : String → S → Prop} (hy : plainName y.cls = true) (hlen : (lg_sl av).length ≤ n)
    (body : ∀ (p : Program) (e : Env) (s : State) (m : MethodId) (below : List Frame) (meth : Method) (c : Code) (A : Nat → Prop), p.tables.exec = Jvm.exec → c.code = b → meth.sig.returnType = ret → c.maxLocals = n → (∀ w ∈ UW, w.before av.toArray s = true) → s.vm.findClass y.cls = some m.cls → meth.locks = false → (∀ x ∈ c.exceptionTable.toList, False) → va_P G.1 vwCl ws s.heap → va_D A ws → (∀ q : Nat, s.heap.size ≤ q → A q) → KK G s → ST G A s → ∀ ls : Array Slot, lv_has ls n (lv_args 0 av) →
      W p l e (rmd d mc ms) s m av.toArray below meth c s.heap [] 0 0 (vx_MQ below (wQ val ok W1 G.1 A) (xW okx W1 G.1 A) av.toArray s mc ms A) (F0 m 0 ls [])) : xxMet l y b n ret d mc ms G ws av sz val ok W1 okx := by
  refine vx_ofW (cc := b) (maxL := n) (ret := ret) hy rfl ?_
  intro p e s m args below meth c s₁ B hml hx hv
  obtain ⟨rfl, hsz, hP, hK, hD, hST⟩ := hv
  have hts := atoms_spec (ws := wsU y b n ret) B.pre
  rw [lg_entry_eq]
  subst hsz
  exact body p e s m below meth c (va_A ws s.heap.size) B.exec B.bytes B.returns hml (fun w h => hts w (List.mem_cons_of_mem _ h)) (findClass_of_methodNamed B.named) B.notSynchronized hx hP hD.self (fun q h => Or.inr h) hK hST _ (lv_entry av hlen)
section Rows385
variable {p : Program} {l : Launch} {e : Env} {R : Room} {s : State} {m : MethodId} {args : Array Value} {below : List Frame} {meth : Method} {c : Code} {H : Heap} {locs : List Loc} {cells slots : Nat} {Q : State → Prop} {cc : ByteArray} {pc : Nat} {ls : Array Slot}
theorem xx_throwSW {S : Type} {W1 : S → va_W} {Qc : Array Value → State → Outcome → State → Prop} {okx : String → S → Prop} {G : GG} {A : Nat → Prop} {own cls text : String} {ik is ic mc ms j nL : Nat} {rest : List Value} (u : S) (hl9 : l.stackTraces = false) (F : CallFix p m c cc nL s args UW own) (hST : ST G A s) (hS : va_S A s.heap H locs) (hlk : meth.locks = false) (hxt : ∀ x ∈ c.exceptionTable.toList, False) (hcls : Bundle.fit cls = true)
    (hk : Cond.classLink own ik cls ∈ UW) (hini : Cond.initialized cls ∈ UW) (hm : (own, is, text, j) ∈ strT) (hat : ∀ w ∈ vx_atS own ic cls ["java/lang/RuntimeException", "java/lang/Exception"], w ∈ lw_tbl ∧ (goodWord w || isCastW w) = true) (hg : ∀ w ∈ Cond.classLink own ik cls :: Cond.initialized cls :: vx_atS own ic cls ["java/lang/RuntimeException", "java/lang/Exception"], vx_ot w = true)
    (hsize : ls.size = nL) (d0 : decode cc pc = .ok (.new ik, 3)) (d3 : decode cc (pc + 3) = .ok (.dup, 1)) (d4 : decode cc (pc + 4) = .ok (.ldc_w is, 3)) (d6 : decode cc (pc + 7) = .ok (.invokespecial ic, 3)) (d9 : decode cc (pc + 10) = .ok (.athrow, 1))
    (hR : 5 < R.frames ∧ (rest.map fun v => v.category).sum + 82 ≤ R.locals) (hC : cells + 1 ≤ R.cells ∧ slots + 6 ≤ R.slots) (hx : okx cls u) (hP : va_P G.1 vwCl (W1 u) H) (hD : va_D A (W1 u)) (hc : cells + 1 ≤ mc) (hs : slots + 6 ≤ ms) :
    W p l e R s m args below meth c H locs cells slots (vx_MQ below Qc (xW okx W1 G.1 A) args s mc ms A) (F0 m pc ls rest) := by
  obtain ⟨hx0, hb, hml, hown, hts⟩ := F
  exact vx_throwSW hx0 hb hl9 hown hcls (by decide +kernel) (hts _ hk) (hts _ hini) (hST.str hm) (at_of hat hts hST.2.2.2.2.2.2.2.1) hg hST.2.2.1 hST.2.2.2.1 hS (hsize.trans hml.symm) d0 d3 d4 d6 d9 (fun x h => (hxt x h).elim) (by simpa using hR.1) (by simpa using hR.2) hC.1 hC.2 hlk
    (fun t _ h1 h2 => ⟨⟨u, hx, hP.kept (fun k q hk => h2 q.1 ((hP k q hk).lt)), hD⟩, Nat.le_trans hS.1 h1, fun q hq hA => (h2 q (Nat.lt_of_lt_of_le hq hS.1)).trans (hS.2.1 q hq hA)⟩) hS.2.2 hc hs
end Rows385

theorem dX9_faultOfCommand_0 : decode cX9_faultOfCommand 0 = .ok (.iload_n 1, 1) := by decide +kernel
theorem dX9_faultOfCommand_1 : decode cX9_faultOfCommand 1 = .ok (.tableswitch 104 0 6 #[43, 56, 69, 79, 79, 89, 99], 43) := by decide +kernel
theorem dX9_faultOfCommand_44 : decode cX9_faultOfCommand 44 = .ok (.aload_n 0, 1) := by decide +kernel
theorem dX9_faultOfCommand_45 : decode cX9_faultOfCommand 45 = .ok (.getfield 10, 3) := by decide +kernel
theorem dX9_faultOfCommand_48 : decode cX9_faultOfCommand 48 = .ok (.getfield 151, 3) := by decide +kernel
theorem dX9_faultOfCommand_51 : decode cX9_faultOfCommand 51 = .ok (.iload_n 2, 1) := by decide +kernel
theorem dX9_faultOfCommand_52 : decode cX9_faultOfCommand 52 = .ok (.iload_n 3, 1) := by decide +kernel
theorem dX9_faultOfCommand_53 : decode cX9_faultOfCommand 53 = .ok (.invokevirtual 168, 3) := by decide +kernel
theorem dX9_faultOfCommand_56 : decode cX9_faultOfCommand 56 = .ok (.areturn, 1) := by decide +kernel
theorem dX9_faultOfCommand_57 : decode cX9_faultOfCommand 57 = .ok (.aload_n 0, 1) := by decide +kernel
theorem dX9_faultOfCommand_58 : decode cX9_faultOfCommand 58 = .ok (.getfield 10, 3) := by decide +kernel
theorem dX9_faultOfCommand_61 : decode cX9_faultOfCommand 61 = .ok (.getfield 151, 3) := by decide +kernel
theorem dX9_faultOfCommand_64 : decode cX9_faultOfCommand 64 = .ok (.iload_n 2, 1) := by decide +kernel
theorem dX9_faultOfCommand_65 : decode cX9_faultOfCommand 65 = .ok (.iload_n 3, 1) := by decide +kernel
theorem dX9_faultOfCommand_66 : decode cX9_faultOfCommand 66 = .ok (.invokevirtual 174, 3) := by decide +kernel
theorem dX9_faultOfCommand_69 : decode cX9_faultOfCommand 69 = .ok (.areturn, 1) := by decide +kernel
theorem dX9_faultOfCommand_70 : decode cX9_faultOfCommand 70 = .ok (.aload_n 0, 1) := by decide +kernel
theorem dX9_faultOfCommand_71 : decode cX9_faultOfCommand 71 = .ok (.getfield 10, 3) := by decide +kernel
theorem dX9_faultOfCommand_74 : decode cX9_faultOfCommand 74 = .ok (.iload_n 2, 1) := by decide +kernel
theorem dX9_faultOfCommand_75 : decode cX9_faultOfCommand 75 = .ok (.iload_n 3, 1) := by decide +kernel
theorem dX9_faultOfCommand_76 : decode cX9_faultOfCommand 76 = .ok (.invokevirtual 180, 3) := by decide +kernel
theorem dX9_faultOfCommand_79 : decode cX9_faultOfCommand 79 = .ok (.areturn, 1) := by decide +kernel
theorem dX9_faultOfCommand_80 : decode cX9_faultOfCommand 80 = .ok (.aload_n 0, 1) := by decide +kernel
theorem dX9_faultOfCommand_81 : decode cX9_faultOfCommand 81 = .ok (.getfield 10, 3) := by decide +kernel
theorem dX9_faultOfCommand_84 : decode cX9_faultOfCommand 84 = .ok (.iload_n 2, 1) := by decide +kernel
theorem dX9_faultOfCommand_85 : decode cX9_faultOfCommand 85 = .ok (.iload_n 3, 1) := by decide +kernel
theorem dX9_faultOfCommand_86 : decode cX9_faultOfCommand 86 = .ok (.invokevirtual 88, 3) := by decide +kernel
theorem dX9_faultOfCommand_89 : decode cX9_faultOfCommand 89 = .ok (.areturn, 1) := by decide +kernel
theorem dX9_faultOfCommand_90 : decode cX9_faultOfCommand 90 = .ok (.aload_n 0, 1) := by decide +kernel
theorem dX9_faultOfCommand_91 : decode cX9_faultOfCommand 91 = .ok (.getfield 10, 3) := by decide +kernel
theorem dX9_faultOfCommand_94 : decode cX9_faultOfCommand 94 = .ok (.iload_n 2, 1) := by decide +kernel
theorem dX9_faultOfCommand_95 : decode cX9_faultOfCommand 95 = .ok (.iload_n 3, 1) := by decide +kernel
theorem dX9_faultOfCommand_96 : decode cX9_faultOfCommand 96 = .ok (.invokevirtual 102, 3) := by decide +kernel
theorem dX9_faultOfCommand_99 : decode cX9_faultOfCommand 99 = .ok (.areturn, 1) := by decide +kernel
theorem dX9_faultOfCommand_100 : decode cX9_faultOfCommand 100 = .ok (.iload_n 2, 1) := by decide +kernel
theorem dX9_faultOfCommand_101 : decode cX9_faultOfCommand 101 = .ok (.invokestatic 109, 3) := by decide +kernel
theorem dX9_faultOfCommand_104 : decode cX9_faultOfCommand 104 = .ok (.areturn, 1) := by decide +kernel
theorem dX9_faultOfCommand_105 : decode cX9_faultOfCommand 105 = .ok (.iload_n 2, 1) := by decide +kernel
theorem dX9_faultOfCommand_106 : decode cX9_faultOfCommand 106 = .ok (.invokestatic 207, 3) := by decide +kernel
theorem dX9_faultOfCommand_109 : decode cX9_faultOfCommand 109 = .ok (.areturn, 1) := by decide +kernel
def f_X9_faultOfCommand (q : McV) (v : StV) (vb : Int32) (x : Int32) (y : Int32) : Nat := (if vb = (0 : Int32) then (f_X5_faultOfGiving v.2.2.2.2.1 x y) else (if vb = (1 : Int32) then (f_X5_faultOfTaking v.2.2.2.2.1 x y) else (if vb = (2 : Int32) then (f_X8_faultOfAttempt v x y) else (if vb = (3 : Int32) then (f_X8_faultOfNewException v x y) else (if vb = (4 : Int32) then (f_X8_faultOfNewException v x y) else (if vb = (5 : Int32) then (f_X8_faultOfLifting v x y) else (if vb = (6 : Int32) then (f_X8_faultOfCycle x) else (f_X8_faultOfWaiting x))))))))
set_option maxHeartbeats 4000000 in
set_option maxRecDepth 100000 in
theorem c_X9_faultOfCommand (l : Launch) (G : GG) (qh0 : Nat) (q_snapshot : Nat) (q_history : Nat) (q_program : Nat) (q_notice : Nat) (va : Nat → Nat) (q : McV) (v : StV) (vb : Int32) (x : Int32) (y : Int32) : rMet l yX9_faultOfCommand cX9_faultOfCommand 4 (some (.object "MoonlitDoors$Fault")) 4 G (fl [[(qh0, .inr (11, [.ref (va 0), .ref q_snapshot, .int q.1, .ref q_history, .ref q_program, .ref q_notice, .int q.2.1, .int q.2.2]))], [((va 0), .inr (10, [.int v.1, .int v.2.1, .ref (va 1), .ref (va 6), .ref (va 10), .ref (va 13)]))], wDo G (va 1) (va 2) (va 3) (va 4) (va 5) v.2.2.1, wEx G (va 6) (va 7) (va 8) (va 9) v.2.2.2.1, wPe G (va 10) (va 11) (va 12) v.2.2.2.2.1, wAu G (va 13) (va 14) (va 15) (va 16) (va 17) (va 18) (va 19) v.2.2.2.2.2]) [.ref qh0, .int vb, .int x, .int y] (some (.ref (G.2.2.1 (f_X9_faultOfCommand q v vb x y)))) ((f_X9_faultOfCommand q v vb x y) < 6) := by
  refine r_start (by decide +kernel) (Nat.le_of_ble_eq_true rfl) ?_
  intro p e s m below meth c hx hb hr hml hts hown hlk hP hK hST ls hl
  have hS : va_S (fun _ => False) s.heap s.heap [] := va_S.rf
  have hown : s.vm.findClass RX9 = some m.cls := hown
  have hl : lv_has ls 4 [(0, .ref qh0), (1, .int vb), (2, .int x), (3, .int y)] := hl
  have hF : f_X9_faultOfCommand q v vb x y = (if vb = (0 : Int32) then (f_X5_faultOfGiving v.2.2.2.2.1 x y) else (if vb = (1 : Int32) then (f_X5_faultOfTaking v.2.2.2.2.1 x y) else (if vb = (2 : Int32) then (f_X8_faultOfAttempt v x y) else (if vb = (3 : Int32) then (f_X8_faultOfNewException v x y) else (if vb = (4 : Int32) then (f_X8_faultOfNewException v x y) else (if vb = (5 : Int32) then (f_X8_faultOfLifting v x y) else (if vb = (6 : Int32) then (f_X8_faultOfCycle x) else (f_X8_faultOfWaiting x)))))))) := rfl
  refine lv_iload_n hx hb dX9_faultOfCommand_0 rfl (lv_at hl 1 rfl) ?_
  by_cases c_1 : vb = (0 : Int32)
  · have hF := hF.trans (if_pos c_1)
    refine lv_tableIn (off := 43) (tgt := 44) hx hb dX9_faultOfCommand_1 (by rw [c_1]; decide) (by rw [c_1]; decide) (by rw [c_1]; rfl) (by decide) ?_
    refine lv_aload_n hx hb dX9_faultOfCommand_44 rfl (lv_at hl 0 rfl) ?_
    refine va_get (D := G.1) (ci := 11) (v := .ref (va 0)) (C := RX9) (T := TX9) (N := 8) hx hb hts uws_X9 hown hK hP 0 rfl rfl 0 (by decide) (hts _ u_1097) (fun _ h9 => h9) rfl dX9_faultOfCommand_45 ?_
    refine va_get (D := G.1) (ci := 10) (v := .ref (va 10)) (C := RX8) (T := TX8) (N := 6) hx hb hts uws_X8 hown hK hP 1 rfl rfl 4 (by decide) (hts _ u_1032) (fun _ h9 => h9) rfl dX9_faultOfCommand_48 ?_
    refine lv_iload_n hx hb dX9_faultOfCommand_51 rfl (lv_at hl 2 rfl) ?_
    refine lv_iload_n hx hb dX9_faultOfCommand_52 rfl (lv_at hl 3 rfl) ?_
    refine r_V (own := RX9) (v := (some (.ref (G.2.2.1 (f_X5_faultOfGiving v.2.2.2.2.1 x y))))) (st1 := [.ref (G.2.2.1 (f_X5_faultOfGiving v.2.2.2.2.1 x y))]) (As := [.int x, .int y]) (rest := []) (c_X5_faultOfGiving l G (va 10) (va 11) (va 12) v.2.2.2.2.1 x y) ⟨hx, hb, hml, hown, hts⟩ g_X9_168 hdv_X5_faultOfGiving hK hST hS hP [11, 12, 13] rfl (k0 := 0) rfl rfl rfl ⟨Nat.le_of_ble_eq_true rfl, Nat.le_of_ble_eq_true rfl⟩ ⟨Nat.le_of_ble_eq_true rfl, Nat.le_of_ble_eq_true rfl⟩ rfl hl.1 rfl (Nat.le_of_ble_eq_true rfl) dX9_faultOfCommand_53 rfl (fun b_2 => ?_)
    exact r_retA hx hb hr hlk (Or.inl ⟨_, rfl⟩) (Or.inr ⟨_, rfl⟩) (by rw [hF]) (by rw [hF]; exact (b_2 : (f_X5_faultOfGiving v.2.2.2.2.1 x y) < 6)) dX9_faultOfCommand_56
  · have hF := hF.trans (if_neg c_1)
    by_cases c_3 : vb = (1 : Int32)
    · have hF := hF.trans (if_pos c_3)
      refine lv_tableIn (off := 56) (tgt := 57) hx hb dX9_faultOfCommand_1 (by rw [c_3]; decide) (by rw [c_3]; decide) (by rw [c_3]; rfl) (by decide) ?_
      refine lv_aload_n hx hb dX9_faultOfCommand_57 rfl (lv_at hl 0 rfl) ?_
      refine va_get (D := G.1) (ci := 11) (v := .ref (va 0)) (C := RX9) (T := TX9) (N := 8) hx hb hts uws_X9 hown hK hP 0 rfl rfl 0 (by decide) (hts _ u_1097) (fun _ h9 => h9) rfl dX9_faultOfCommand_58 ?_
      refine va_get (D := G.1) (ci := 10) (v := .ref (va 10)) (C := RX8) (T := TX8) (N := 6) hx hb hts uws_X8 hown hK hP 1 rfl rfl 4 (by decide) (hts _ u_1032) (fun _ h9 => h9) rfl dX9_faultOfCommand_61 ?_
      refine lv_iload_n hx hb dX9_faultOfCommand_64 rfl (lv_at hl 2 rfl) ?_
      refine lv_iload_n hx hb dX9_faultOfCommand_65 rfl (lv_at hl 3 rfl) ?_
      refine r_V (own := RX9) (v := (some (.ref (G.2.2.1 (f_X5_faultOfTaking v.2.2.2.2.1 x y))))) (st1 := [.ref (G.2.2.1 (f_X5_faultOfTaking v.2.2.2.2.1 x y))]) (As := [.int x, .int y]) (rest := []) (c_X5_faultOfTaking l G (va 10) (va 11) (va 12) v.2.2.2.2.1 x y) ⟨hx, hb, hml, hown, hts⟩ g_X9_174 hdv_X5_faultOfTaking hK hST hS hP [11, 12, 13] rfl (k0 := 0) rfl rfl rfl ⟨Nat.le_of_ble_eq_true rfl, Nat.le_of_ble_eq_true rfl⟩ ⟨Nat.le_of_ble_eq_true rfl, Nat.le_of_ble_eq_true rfl⟩ rfl hl.1 rfl (Nat.le_of_ble_eq_true rfl) dX9_faultOfCommand_66 rfl (fun b_4 => ?_)
      exact r_retA hx hb hr hlk (Or.inl ⟨_, rfl⟩) (Or.inr ⟨_, rfl⟩) (by rw [hF]) (by rw [hF]; exact (b_4 : (f_X5_faultOfTaking v.2.2.2.2.1 x y) < 6)) dX9_faultOfCommand_69
    · have hF := hF.trans (if_neg c_3)
      by_cases c_5 : vb = (2 : Int32)
      · have hF := hF.trans (if_pos c_5)
        refine lv_tableIn (off := 69) (tgt := 70) hx hb dX9_faultOfCommand_1 (by rw [c_5]; decide) (by rw [c_5]; decide) (by rw [c_5]; rfl) (by decide) ?_
        refine lv_aload_n hx hb dX9_faultOfCommand_70 rfl (lv_at hl 0 rfl) ?_
        refine va_get (D := G.1) (ci := 11) (v := .ref (va 0)) (C := RX9) (T := TX9) (N := 8) hx hb hts uws_X9 hown hK hP 0 rfl rfl 0 (by decide) (hts _ u_1097) (fun _ h9 => h9) rfl dX9_faultOfCommand_71 ?_
        refine lv_iload_n hx hb dX9_faultOfCommand_74 rfl (lv_at hl 2 rfl) ?_
        refine lv_iload_n hx hb dX9_faultOfCommand_75 rfl (lv_at hl 3 rfl) ?_
        refine r_V (own := RX9) (v := (some (.ref (G.2.2.1 (f_X8_faultOfAttempt v x y))))) (st1 := [.ref (G.2.2.1 (f_X8_faultOfAttempt v x y))]) (As := [.int x, .int y]) (rest := []) (c_X8_faultOfAttempt l G va v x y) ⟨hx, hb, hml, hown, hts⟩ g_X9_180 hdv_X8_faultOfAttempt hK hST hS hP [1, 2, 3, 4, 5, 6, 7, 8, 9, 10, 11, 12, 13, 14, 15, 16, 17, 18, 19, 20] rfl (k0 := 0) rfl rfl rfl ⟨Nat.le_of_ble_eq_true rfl, Nat.le_of_ble_eq_true rfl⟩ ⟨Nat.le_of_ble_eq_true rfl, Nat.le_of_ble_eq_true rfl⟩ rfl hl.1 rfl (Nat.le_of_ble_eq_true rfl) dX9_faultOfCommand_76 rfl (fun b_6 => ?_)
        exact r_retA hx hb hr hlk (Or.inl ⟨_, rfl⟩) (Or.inr ⟨_, rfl⟩) (by rw [hF]) (by rw [hF]; exact (b_6 : (f_X8_faultOfAttempt v x y) < 6)) dX9_faultOfCommand_79
      · have hF := hF.trans (if_neg c_5)
        by_cases c_7 : vb = (3 : Int32)
        · have hF := hF.trans (if_pos c_7)
          refine lv_tableIn (off := 79) (tgt := 80) hx hb dX9_faultOfCommand_1 (by rw [c_7]; decide) (by rw [c_7]; decide) (by rw [c_7]; rfl) (by decide) ?_
          refine lv_aload_n hx hb dX9_faultOfCommand_80 rfl (lv_at hl 0 rfl) ?_
          refine va_get (D := G.1) (ci := 11) (v := .ref (va 0)) (C := RX9) (T := TX9) (N := 8) hx hb hts uws_X9 hown hK hP 0 rfl rfl 0 (by decide) (hts _ u_1097) (fun _ h9 => h9) rfl dX9_faultOfCommand_81 ?_
          refine lv_iload_n hx hb dX9_faultOfCommand_84 rfl (lv_at hl 2 rfl) ?_
          refine lv_iload_n hx hb dX9_faultOfCommand_85 rfl (lv_at hl 3 rfl) ?_
          refine r_V (own := RX9) (v := (some (.ref (G.2.2.1 (f_X8_faultOfNewException v x y))))) (st1 := [.ref (G.2.2.1 (f_X8_faultOfNewException v x y))]) (As := [.int x, .int y]) (rest := []) (c_X8_faultOfNewException l G va v x y) ⟨hx, hb, hml, hown, hts⟩ g_X9_88 hdv_X8_faultOfNewException hK hST hS hP [1, 2, 3, 4, 5, 6, 7, 8, 9, 10, 11, 12, 13, 14, 15, 16, 17, 18, 19, 20] rfl (k0 := 0) rfl rfl rfl ⟨Nat.le_of_ble_eq_true rfl, Nat.le_of_ble_eq_true rfl⟩ ⟨Nat.le_of_ble_eq_true rfl, Nat.le_of_ble_eq_true rfl⟩ rfl hl.1 rfl (Nat.le_of_ble_eq_true rfl) dX9_faultOfCommand_86 rfl (fun b_8 => ?_)
          exact r_retA hx hb hr hlk (Or.inl ⟨_, rfl⟩) (Or.inr ⟨_, rfl⟩) (by rw [hF]) (by rw [hF]; exact (b_8 : (f_X8_faultOfNewException v x y) < 6)) dX9_faultOfCommand_89
        · have hF := hF.trans (if_neg c_7)
          by_cases c_9 : vb = (4 : Int32)
          · have hF := hF.trans (if_pos c_9)
            refine lv_tableIn (off := 79) (tgt := 80) hx hb dX9_faultOfCommand_1 (by rw [c_9]; decide) (by rw [c_9]; decide) (by rw [c_9]; rfl) (by decide) ?_
            refine lv_aload_n hx hb dX9_faultOfCommand_80 rfl (lv_at hl 0 rfl) ?_
            refine va_get (D := G.1) (ci := 11) (v := .ref (va 0)) (C := RX9) (T := TX9) (N := 8) hx hb hts uws_X9 hown hK hP 0 rfl rfl 0 (by decide) (hts _ u_1097) (fun _ h9 => h9) rfl dX9_faultOfCommand_81 ?_
            refine lv_iload_n hx hb dX9_faultOfCommand_84 rfl (lv_at hl 2 rfl) ?_
            refine lv_iload_n hx hb dX9_faultOfCommand_85 rfl (lv_at hl 3 rfl) ?_
            refine r_V (own := RX9) (v := (some (.ref (G.2.2.1 (f_X8_faultOfNewException v x y))))) (st1 := [.ref (G.2.2.1 (f_X8_faultOfNewException v x y))]) (As := [.int x, .int y]) (rest := []) (c_X8_faultOfNewException l G va v x y) ⟨hx, hb, hml, hown, hts⟩ g_X9_88 hdv_X8_faultOfNewException hK hST hS hP [1, 2, 3, 4, 5, 6, 7, 8, 9, 10, 11, 12, 13, 14, 15, 16, 17, 18, 19, 20] rfl (k0 := 0) rfl rfl rfl ⟨Nat.le_of_ble_eq_true rfl, Nat.le_of_ble_eq_true rfl⟩ ⟨Nat.le_of_ble_eq_true rfl, Nat.le_of_ble_eq_true rfl⟩ rfl hl.1 rfl (Nat.le_of_ble_eq_true rfl) dX9_faultOfCommand_86 rfl (fun b_10 => ?_)
            exact r_retA hx hb hr hlk (Or.inl ⟨_, rfl⟩) (Or.inr ⟨_, rfl⟩) (by rw [hF]) (by rw [hF]; exact (b_10 : (f_X8_faultOfNewException v x y) < 6)) dX9_faultOfCommand_89
          · have hF := hF.trans (if_neg c_9)
            by_cases c_11 : vb = (5 : Int32)
            · have hF := hF.trans (if_pos c_11)
              refine lv_tableIn (off := 89) (tgt := 90) hx hb dX9_faultOfCommand_1 (by rw [c_11]; decide) (by rw [c_11]; decide) (by rw [c_11]; rfl) (by decide) ?_
              refine lv_aload_n hx hb dX9_faultOfCommand_90 rfl (lv_at hl 0 rfl) ?_
              refine va_get (D := G.1) (ci := 11) (v := .ref (va 0)) (C := RX9) (T := TX9) (N := 8) hx hb hts uws_X9 hown hK hP 0 rfl rfl 0 (by decide) (hts _ u_1097) (fun _ h9 => h9) rfl dX9_faultOfCommand_91 ?_
              refine lv_iload_n hx hb dX9_faultOfCommand_94 rfl (lv_at hl 2 rfl) ?_
              refine lv_iload_n hx hb dX9_faultOfCommand_95 rfl (lv_at hl 3 rfl) ?_
              refine r_V (own := RX9) (v := (some (.ref (G.2.2.1 (f_X8_faultOfLifting v x y))))) (st1 := [.ref (G.2.2.1 (f_X8_faultOfLifting v x y))]) (As := [.int x, .int y]) (rest := []) (c_X8_faultOfLifting l G va v x y) ⟨hx, hb, hml, hown, hts⟩ g_X9_102 hdv_X8_faultOfLifting hK hST hS hP [1, 2, 3, 4, 5, 6, 7, 8, 9, 10, 11, 12, 13, 14, 15, 16, 17, 18, 19, 20] rfl (k0 := 0) rfl rfl rfl ⟨Nat.le_of_ble_eq_true rfl, Nat.le_of_ble_eq_true rfl⟩ ⟨Nat.le_of_ble_eq_true rfl, Nat.le_of_ble_eq_true rfl⟩ rfl hl.1 rfl (Nat.le_of_ble_eq_true rfl) dX9_faultOfCommand_96 rfl (fun b_12 => ?_)
              exact r_retA hx hb hr hlk (Or.inl ⟨_, rfl⟩) (Or.inr ⟨_, rfl⟩) (by rw [hF]) (by rw [hF]; exact (b_12 : (f_X8_faultOfLifting v x y) < 6)) dX9_faultOfCommand_99
            · have hF := hF.trans (if_neg c_11)
              by_cases c_13 : vb = (6 : Int32)
              · have hF := hF.trans (if_pos c_13)
                refine lv_tableIn (off := 99) (tgt := 100) hx hb dX9_faultOfCommand_1 (by rw [c_13]; decide) (by rw [c_13]; decide) (by rw [c_13]; rfl) (by decide) ?_
                refine lv_iload_n hx hb dX9_faultOfCommand_100 rfl (lv_at hl 2 rfl) ?_
                refine r_S (own := RX9) (v := (some (.ref (G.2.2.1 (f_X8_faultOfCycle x))))) (st1 := [.ref (G.2.2.1 (f_X8_faultOfCycle x))]) (As := [.int x]) (rest := []) (c_X8_faultOfCycle l G x) ⟨hx, hb, hml, hown, hts⟩ g_X9_109 hds_X8_faultOfCycle hK hST hS hP [] rfl ⟨Nat.le_of_ble_eq_true rfl, Nat.le_of_ble_eq_true rfl⟩ ⟨Nat.le_of_ble_eq_true rfl, Nat.le_of_ble_eq_true rfl⟩ rfl hl.1 rfl (Nat.le_of_ble_eq_true rfl) dX9_faultOfCommand_101 rfl (fun b_14 => ?_)
                exact r_retA hx hb hr hlk (Or.inl ⟨_, rfl⟩) (Or.inr ⟨_, rfl⟩) (by rw [hF]) (by rw [hF]; exact (b_14 : (f_X8_faultOfCycle x) < 6)) dX9_faultOfCommand_104
              · have hF := hF.trans (if_neg c_13)
                refine lv_tableOut (tgt := 105) hx hb dX9_faultOfCommand_1 (by
                    have g0 : (vb).toInt ≠ 0 := fun e => c_1 (Int32.toInt_inj.mp (e.trans (by decide)))
                    have g1 : (vb).toInt ≠ 1 := fun e => c_3 (Int32.toInt_inj.mp (e.trans (by decide)))
                    have g2 : (vb).toInt ≠ 2 := fun e => c_5 (Int32.toInt_inj.mp (e.trans (by decide)))
                    have g3 : (vb).toInt ≠ 3 := fun e => c_7 (Int32.toInt_inj.mp (e.trans (by decide)))
                    have g4 : (vb).toInt ≠ 4 := fun e => c_9 (Int32.toInt_inj.mp (e.trans (by decide)))
                    have g5 : (vb).toInt ≠ 5 := fun e => c_11 (Int32.toInt_inj.mp (e.trans (by decide)))
                    have g6 : (vb).toInt ≠ 6 := fun e => c_13 (Int32.toInt_inj.mp (e.trans (by decide)))
                    omega) (by decide) ?_
                refine lv_iload_n hx hb dX9_faultOfCommand_105 rfl (lv_at hl 2 rfl) ?_
                refine r_S (own := RX9) (v := (some (.ref (G.2.2.1 (f_X8_faultOfWaiting x))))) (st1 := [.ref (G.2.2.1 (f_X8_faultOfWaiting x))]) (As := [.int x]) (rest := []) (c_X8_faultOfWaiting l G x) ⟨hx, hb, hml, hown, hts⟩ g_X9_207 hds_X8_faultOfWaiting hK hST hS hP [] rfl ⟨Nat.le_of_ble_eq_true rfl, Nat.le_of_ble_eq_true rfl⟩ ⟨Nat.le_of_ble_eq_true rfl, Nat.le_of_ble_eq_true rfl⟩ rfl hl.1 rfl (Nat.le_of_ble_eq_true rfl) dX9_faultOfCommand_106 rfl (fun b_15 => ?_)
                exact r_retA hx hb hr hlk (Or.inl ⟨_, rfl⟩) (Or.inr ⟨_, rfl⟩) (by rw [hF]) (by rw [hF]; exact (b_15 : (f_X8_faultOfWaiting x) < 6)) dX9_faultOfCommand_109
theorem dX9_carryOut_0 : decode cX9_carryOut 0 = .ok (.iload_n 1, 1) := by decide +kernel
theorem dX9_carryOut_1 : decode cX9_carryOut 1 = .ok (.tableswitch 142 0 6 #[43, 59, 75, 88, 88, 114, 130], 43) := by decide +kernel
theorem dX9_carryOut_44 : decode cX9_carryOut 44 = .ok (.aload_n 0, 1) := by decide +kernel
theorem dX9_carryOut_45 : decode cX9_carryOut 45 = .ok (.getfield 10, 3) := by decide +kernel
theorem dX9_carryOut_48 : decode cX9_carryOut 48 = .ok (.getfield 151, 3) := by decide +kernel
theorem dX9_carryOut_51 : decode cX9_carryOut 51 = .ok (.iload_n 2, 1) := by decide +kernel
theorem dX9_carryOut_52 : decode cX9_carryOut 52 = .ok (.iload_n 3, 1) := by decide +kernel
theorem dX9_carryOut_53 : decode cX9_carryOut 53 = .ok (.invokevirtual 171, 3) := by decide +kernel
theorem dX9_carryOut_56 : decode cX9_carryOut 56 = .ok (.pop, 1) := by decide +kernel
theorem dX9_carryOut_57 : decode cX9_carryOut 57 = .ok (.goto 95, 3) := by decide +kernel
theorem dX9_carryOut_152 : decode cX9_carryOut 152 = .ok (.return_, 1) := by decide +kernel
theorem dX9_carryOut_60 : decode cX9_carryOut 60 = .ok (.aload_n 0, 1) := by decide +kernel
theorem dX9_carryOut_61 : decode cX9_carryOut 61 = .ok (.getfield 10, 3) := by decide +kernel
theorem dX9_carryOut_64 : decode cX9_carryOut 64 = .ok (.getfield 151, 3) := by decide +kernel
theorem dX9_carryOut_67 : decode cX9_carryOut 67 = .ok (.iload_n 2, 1) := by decide +kernel
theorem dX9_carryOut_68 : decode cX9_carryOut 68 = .ok (.iload_n 3, 1) := by decide +kernel
theorem dX9_carryOut_69 : decode cX9_carryOut 69 = .ok (.invokevirtual 177, 3) := by decide +kernel
theorem dX9_carryOut_72 : decode cX9_carryOut 72 = .ok (.pop, 1) := by decide +kernel
theorem dX9_carryOut_73 : decode cX9_carryOut 73 = .ok (.goto 79, 3) := by decide +kernel
theorem dX9_carryOut_76 : decode cX9_carryOut 76 = .ok (.aload_n 0, 1) := by decide +kernel
theorem dX9_carryOut_77 : decode cX9_carryOut 77 = .ok (.getfield 10, 3) := by decide +kernel
theorem dX9_carryOut_80 : decode cX9_carryOut 80 = .ok (.iload_n 2, 1) := by decide +kernel
theorem dX9_carryOut_81 : decode cX9_carryOut 81 = .ok (.iload_n 3, 1) := by decide +kernel
theorem dX9_carryOut_82 : decode cX9_carryOut 82 = .ok (.invokevirtual 183, 3) := by decide +kernel
theorem dX9_carryOut_85 : decode cX9_carryOut 85 = .ok (.pop, 1) := by decide +kernel
theorem dX9_carryOut_86 : decode cX9_carryOut 86 = .ok (.goto 66, 3) := by decide +kernel
theorem dX9_carryOut_89 : decode cX9_carryOut 89 = .ok (.aload_n 0, 1) := by decide +kernel
theorem dX9_carryOut_90 : decode cX9_carryOut 90 = .ok (.getfield 10, 3) := by decide +kernel
theorem dX9_carryOut_93 : decode cX9_carryOut 93 = .ok (.getfield 92, 3) := by decide +kernel
theorem dX9_carryOut_96 : decode cX9_carryOut 96 = .ok (.iload_n 2, 1) := by decide +kernel
theorem dX9_carryOut_97 : decode cX9_carryOut 97 = .ok (.iload_n 3, 1) := by decide +kernel
theorem dX9_carryOut_98 : decode cX9_carryOut 98 = .ok (.iload_n 1, 1) := by decide +kernel
theorem dX9_carryOut_99 : decode cX9_carryOut 99 = .ok (.iconst 3, 1) := by decide +kernel
theorem dX9_carryOut_100 : decode cX9_carryOut 100 = .ok (.if_icmp .ne 7, 3) := by decide +kernel
theorem dX9_carryOut_103 : decode cX9_carryOut 103 = .ok (.iconst 1, 1) := by decide +kernel
theorem dX9_carryOut_104 : decode cX9_carryOut 104 = .ok (.goto 4, 3) := by decide +kernel
theorem dX9_carryOut_108 : decode cX9_carryOut 108 = .ok (.invokevirtual 96, 3) := by decide +kernel
theorem dX9_carryOut_111 : decode cX9_carryOut 111 = .ok (.pop, 1) := by decide +kernel
theorem dX9_carryOut_112 : decode cX9_carryOut 112 = .ok (.goto 40, 3) := by decide +kernel
theorem dX9_carryOut_107 : decode cX9_carryOut 107 = .ok (.iconst 0, 1) := by decide +kernel
theorem dX9_carryOut_115 : decode cX9_carryOut 115 = .ok (.aload_n 0, 1) := by decide +kernel
theorem dX9_carryOut_116 : decode cX9_carryOut 116 = .ok (.getfield 10, 3) := by decide +kernel
theorem dX9_carryOut_119 : decode cX9_carryOut 119 = .ok (.getfield 92, 3) := by decide +kernel
theorem dX9_carryOut_122 : decode cX9_carryOut 122 = .ok (.iload_n 2, 1) := by decide +kernel
theorem dX9_carryOut_123 : decode cX9_carryOut 123 = .ok (.iload_n 3, 1) := by decide +kernel
theorem dX9_carryOut_124 : decode cX9_carryOut 124 = .ok (.invokevirtual 105, 3) := by decide +kernel
theorem dX9_carryOut_127 : decode cX9_carryOut 127 = .ok (.pop, 1) := by decide +kernel
theorem dX9_carryOut_128 : decode cX9_carryOut 128 = .ok (.goto 24, 3) := by decide +kernel
theorem dX9_carryOut_131 : decode cX9_carryOut 131 = .ok (.aload_n 0, 1) := by decide +kernel
theorem dX9_carryOut_132 : decode cX9_carryOut 132 = .ok (.getfield 10, 3) := by decide +kernel
theorem dX9_carryOut_135 : decode cX9_carryOut 135 = .ok (.iload_n 2, 1) := by decide +kernel
theorem dX9_carryOut_136 : decode cX9_carryOut 136 = .ok (.invokevirtual 113, 3) := by decide +kernel
theorem dX9_carryOut_139 : decode cX9_carryOut 139 = .ok (.pop, 1) := by decide +kernel
theorem dX9_carryOut_140 : decode cX9_carryOut 140 = .ok (.goto 12, 3) := by decide +kernel
theorem dX9_carryOut_143 : decode cX9_carryOut 143 = .ok (.aload_n 0, 1) := by decide +kernel
theorem dX9_carryOut_144 : decode cX9_carryOut 144 = .ok (.getfield 10, 3) := by decide +kernel
theorem dX9_carryOut_147 : decode cX9_carryOut 147 = .ok (.iload_n 2, 1) := by decide +kernel
theorem dX9_carryOut_148 : decode cX9_carryOut 148 = .ok (.invokevirtual 210, 3) := by decide +kernel
theorem dX9_carryOut_151 : decode cX9_carryOut 151 = .ok (.pop, 1) := by decide +kernel
def f_X9_carryOut (q : McV) (v : StV) (vb : Int32) (x : Int32) (y : Int32) : StV := (if vb = (0 : Int32) then (let u_3 : Int32 × PeV := (f_X5_give v.2.2.2.2.1 x y); (v.1, v.2.1, v.2.2.1, v.2.2.2.1, u_3.2, v.2.2.2.2.2)) else (if vb = (1 : Int32) then (let u_6 : Int32 × PeV := (f_X5_take v.2.2.2.2.1 x y); (v.1, v.2.1, v.2.2.1, v.2.2.2.1, u_6.2, v.2.2.2.2.2)) else (if vb = (2 : Int32) then (let u_9 : Int32 × StV := (f_X8_attempt v x y); u_9.2) else (if vb = (3 : Int32) then (let u_13 : Int32 × ExV := (f_X1_insert v.2.2.2.1 x y (1 : Int32)); (v.1, v.2.1, v.2.2.1, u_13.2, v.2.2.2.2.1, v.2.2.2.2.2)) else (if vb = (4 : Int32) then (let u_17 : Int32 × ExV := (f_X1_insert v.2.2.2.1 x y (0 : Int32)); (v.1, v.2.1, v.2.2.1, u_17.2, v.2.2.2.2.1, v.2.2.2.2.2)) else (if vb = (5 : Int32) then (let u_20 : Int32 × ExV := (f_X1_remove v.2.2.2.1 x y); (v.1, v.2.1, v.2.2.1, u_20.2, v.2.2.2.2.1, v.2.2.2.2.2)) else (if vb = (6 : Int32) then (let u_23 : Int32 × StV := (f_X8_changeCycle (v.1, v.2.1, v.2.2.1, v.2.2.2.1, v.2.2.2.2.1, v.2.2.2.2.2) x); u_23.2) else (let u_25 : Int32 × StV := (f_X8_passHours (v.1, v.2.1, v.2.2.1, v.2.2.2.1, v.2.2.2.2.1, v.2.2.2.2.2) x); u_25.2))))))))
set_option maxHeartbeats 4000000 in
set_option maxRecDepth 100000 in
theorem c_X9_carryOut (l : Launch) (G : GG) (qh0 : Nat) (q_snapshot : Nat) (q_history : Nat) (q_program : Nat) (q_notice : Nat) (va : Nat → Nat) (sz : Nat) (q : McV) (v : StV) (vb : Int32) (x : Int32) (y : Int32) : wMet l yX9_carryOut cX9_carryOut 4 none 5 0 0 G (fl [[(qh0, .inr (11, [.ref (va 0), .ref q_snapshot, .int q.1, .ref q_history, .ref q_program, .ref q_notice, .int q.2.1, .int q.2.2]))], [((va 0), .inr (10, [.int v.1, .int v.2.1, .ref (va 1), .ref (va 6), .ref (va 10), .ref (va 13)]))], wDo G (va 1) (va 2) (va 3) (va 4) (va 5) v.2.2.1, wEx G (va 6) (va 7) (va 8) (va 9) v.2.2.2.1, wPe G (va 10) (va 11) (va 12) v.2.2.2.2.1, wAu G (va 13) (va 14) (va 15) (va 16) (va 17) (va 18) (va 19) v.2.2.2.2.2]) [.ref qh0, .int vb, .int x, .int y] sz (fun u : StV => none) (fun u : StV => u = f_X9_carryOut q v vb x y) (fun u : StV => fl [[(qh0, .inr (11, [.ref (va 0), .ref q_snapshot, .int q.1, .ref q_history, .ref q_program, .ref q_notice, .int q.2.1, .int q.2.2]))], [((va 0), .inr (10, [.int u.1, .int u.2.1, .ref (va 1), .ref (va 6), .ref (va 10), .ref (va 13)]))], wDo G (va 1) (va 2) (va 3) (va 4) (va 5) u.2.2.1, wEx G (va 6) (va 7) (va 8) (va 9) u.2.2.2.1, wPe G (va 10) (va 11) (va 12) u.2.2.2.2.1, wAu G (va 13) (va 14) (va 15) (va 16) (va 17) (va 18) (va 19) u.2.2.2.2.2]) := by
  refine w_start (by decide +kernel) (Nat.le_of_ble_eq_true rfl) ?_
  intro p e s m below meth c A hx hb hr hml hts hown hlk hin hP hD hA hK hST ls hl
  have hS : va_S A s.heap s.heap [] := va_S.rf
  have hown : s.vm.findClass RX9 = some m.cls := hown
  have hl : lv_has ls 4 [(0, .ref qh0), (1, .int vb), (2, .int x), (3, .int y)] := hl
  have hF : f_X9_carryOut q v vb x y = (if vb = (0 : Int32) then (let u_3 : Int32 × PeV := (f_X5_give v.2.2.2.2.1 x y); (v.1, v.2.1, v.2.2.1, v.2.2.2.1, u_3.2, v.2.2.2.2.2)) else (if vb = (1 : Int32) then (let u_6 : Int32 × PeV := (f_X5_take v.2.2.2.2.1 x y); (v.1, v.2.1, v.2.2.1, v.2.2.2.1, u_6.2, v.2.2.2.2.2)) else (if vb = (2 : Int32) then (let u_9 : Int32 × StV := (f_X8_attempt v x y); u_9.2) else (if vb = (3 : Int32) then (let u_13 : Int32 × ExV := (f_X1_insert v.2.2.2.1 x y (1 : Int32)); (v.1, v.2.1, v.2.2.1, u_13.2, v.2.2.2.2.1, v.2.2.2.2.2)) else (if vb = (4 : Int32) then (let u_17 : Int32 × ExV := (f_X1_insert v.2.2.2.1 x y (0 : Int32)); (v.1, v.2.1, v.2.2.1, u_17.2, v.2.2.2.2.1, v.2.2.2.2.2)) else (if vb = (5 : Int32) then (let u_20 : Int32 × ExV := (f_X1_remove v.2.2.2.1 x y); (v.1, v.2.1, v.2.2.1, u_20.2, v.2.2.2.2.1, v.2.2.2.2.2)) else (if vb = (6 : Int32) then (let u_23 : Int32 × StV := (f_X8_changeCycle (v.1, v.2.1, v.2.2.1, v.2.2.2.1, v.2.2.2.2.1, v.2.2.2.2.2) x); u_23.2) else (let u_25 : Int32 × StV := (f_X8_passHours (v.1, v.2.1, v.2.2.1, v.2.2.2.1, v.2.2.2.2.1, v.2.2.2.2.2) x); u_25.2)))))))) := rfl
  refine lv_iload_n hx hb dX9_carryOut_0 rfl (lv_at hl 1 rfl) ?_
  by_cases c_1 : vb = (0 : Int32)
  · have hF := hF.trans (if_pos c_1)
    refine lv_tableIn (off := 43) (tgt := 44) hx hb dX9_carryOut_1 (by rw [c_1]; decide) (by rw [c_1]; decide) (by rw [c_1]; rfl) (by decide) ?_
    refine lv_aload_n hx hb dX9_carryOut_44 rfl (lv_at hl 0 rfl) ?_
    refine va_get (D := G.1) (ci := 11) (v := .ref (va 0)) (C := RX9) (T := TX9) (N := 8) hx hb hts uws_X9 hown hK hP 0 rfl rfl 0 (by decide) (hts _ u_1097) (fun _ h9 => h9) rfl dX9_carryOut_45 ?_
    refine va_get (D := G.1) (ci := 10) (v := .ref (va 10)) (C := RX8) (T := TX8) (N := 6) hx hb hts uws_X8 hown hK hP 1 rfl rfl 4 (by decide) (hts _ u_1032) (fun _ h9 => h9) rfl dX9_carryOut_48 ?_
    refine lv_iload_n hx hb dX9_carryOut_51 rfl (lv_at hl 2 rfl) ?_
    refine lv_iload_n hx hb dX9_carryOut_52 rfl (lv_at hl 3 rfl) ?_
    refine w_V (own := RX9) (cs := [wPe G (va 10) (va 11) (va 12) v.2.2.2.2.1]) (rs := [[(qh0, .inr (11, [.ref (va 0), .ref q_snapshot, .int q.1, .ref q_history, .ref q_program, .ref q_notice, .int q.2.1, .int q.2.2]))], [((va 0), .inr (10, [.int v.1, .int v.2.1, .ref (va 1), .ref (va 6), .ref (va 10), .ref (va 13)]))], wDo G (va 1) (va 2) (va 3) (va 4) (va 5) v.2.2.1, wEx G (va 6) (va 7) (va 8) (va 9) v.2.2.2.1, wAu G (va 13) (va 14) (va 15) (va 16) (va 17) (va 18) (va 19) v.2.2.2.2.2]) (As := [.int x, .int y]) (rest := []) (c_X5_give l G (va 10) (va 11) (va 12) s.heap.size v.2.2.2.2.1 x y) ⟨hx, hb, hml, hown, hts⟩ g_X9_171 hdv_X5_give hK hST hS hP hD hA [4] [0, 1, 2, 3, 5] rfl rfl rfl (k0 := 0) rfl rfl rfl ⟨Nat.le_of_ble_eq_true rfl, Nat.le_of_ble_eq_true rfl⟩ ⟨Nat.le_of_ble_eq_true rfl, Nat.le_of_ble_eq_true rfl⟩ rfl hl.1 rfl (Nat.le_of_ble_eq_true rfl) dX9_carryOut_53 (fun u_3 H locs huu hP hD hS => ?_)
    have eu_3 := huu
    have hP : va_P G.1 vwCl (fl [wPe G (va 10) (va 11) (va 12) u_3.2, [(qh0, .inr (11, [.ref (va 0), .ref q_snapshot, .int q.1, .ref q_history, .ref q_program, .ref q_notice, .int q.2.1, .int q.2.2]))], [((va 0), .inr (10, [.int v.1, .int v.2.1, .ref (va 1), .ref (va 6), .ref (va 10), .ref (va 13)]))], wDo G (va 1) (va 2) (va 3) (va 4) (va 5) v.2.2.1, wEx G (va 6) (va 7) (va 8) (va 9) v.2.2.2.1, wAu G (va 13) (va 14) (va 15) (va 16) (va 17) (va 18) (va 19) v.2.2.2.2.2]) H := hP
    have hD : va_D A (fl [wPe G (va 10) (va 11) (va 12) u_3.2, [(qh0, .inr (11, [.ref (va 0), .ref q_snapshot, .int q.1, .ref q_history, .ref q_program, .ref q_notice, .int q.2.1, .int q.2.2]))], [((va 0), .inr (10, [.int v.1, .int v.2.1, .ref (va 1), .ref (va 6), .ref (va 10), .ref (va 13)]))], wDo G (va 1) (va 2) (va 3) (va 4) (va 5) v.2.2.1, wEx G (va 6) (va 7) (va 8) (va 9) v.2.2.2.1, wAu G (va 13) (va 14) (va 15) (va 16) (va 17) (va 18) (va 19) v.2.2.2.2.2]) := hD
    refine W.eq (g2 := F0 m 56 ls [.int u_3.1]) rfl ?_
    have hF : f_X9_carryOut q v vb x y = (v.1, v.2.1, v.2.2.1, v.2.2.2.1, u_3.2, v.2.2.2.2.2) := by subst eu_3; exact hF
    refine lv_pop hx hb dX9_carryOut_56 rfl ?_
    refine lv_goto (tgt := 152) hx hb dX9_carryOut_57 (by decide) ?_
    have hP := fl_sub (cs := [[(qh0, .inr (11, [.ref (va 0), .ref q_snapshot, .int q.1, .ref q_history, .ref q_program, .ref q_notice, .int q.2.1, .int q.2.2]))], [((va 0), .inr (10, [.int v.1, .int v.2.1, .ref (va 1), .ref (va 6), .ref (va 10), .ref (va 13)]))], wDo G (va 1) (va 2) (va 3) (va 4) (va 5) v.2.2.1, wEx G (va 6) (va 7) (va 8) (va 9) v.2.2.2.1, wPe G (va 10) (va 11) (va 12) u_3.2, wAu G (va 13) (va 14) (va 15) (va 16) (va 17) (va 18) (va 19) v.2.2.2.2.2]) [1, 2, 3, 4, 0, 5] rfl hP
    have hD := fl_subD (cs := [[(qh0, .inr (11, [.ref (va 0), .ref q_snapshot, .int q.1, .ref q_history, .ref q_program, .ref q_notice, .int q.2.1, .int q.2.2]))], [((va 0), .inr (10, [.int v.1, .int v.2.1, .ref (va 1), .ref (va 6), .ref (va 10), .ref (va 13)]))], wDo G (va 1) (va 2) (va 3) (va 4) (va 5) v.2.2.1, wEx G (va 6) (va 7) (va 8) (va 9) v.2.2.2.1, wPe G (va 10) (va 11) (va 12) u_3.2, wAu G (va 13) (va 14) (va 15) (va 16) (va 17) (va 18) (va 19) v.2.2.2.2.2]) [1, 2, 3, 4, 0, 5] rfl rfl hD
    exact w_retV (u := (v.1, v.2.1, v.2.2.1, v.2.2.2.1, u_3.2, v.2.2.2.2.2)) hx hb hr hlk hS rfl hF.symm hP hD (Nat.le_of_ble_eq_true rfl) (Nat.le_of_ble_eq_true rfl) dX9_carryOut_152
  · have hF := hF.trans (if_neg c_1)
    by_cases c_4 : vb = (1 : Int32)
    · have hF := hF.trans (if_pos c_4)
      refine lv_tableIn (off := 59) (tgt := 60) hx hb dX9_carryOut_1 (by rw [c_4]; decide) (by rw [c_4]; decide) (by rw [c_4]; rfl) (by decide) ?_
      refine lv_aload_n hx hb dX9_carryOut_60 rfl (lv_at hl 0 rfl) ?_
      refine va_get (D := G.1) (ci := 11) (v := .ref (va 0)) (C := RX9) (T := TX9) (N := 8) hx hb hts uws_X9 hown hK hP 0 rfl rfl 0 (by decide) (hts _ u_1097) (fun _ h9 => h9) rfl dX9_carryOut_61 ?_
      refine va_get (D := G.1) (ci := 10) (v := .ref (va 10)) (C := RX8) (T := TX8) (N := 6) hx hb hts uws_X8 hown hK hP 1 rfl rfl 4 (by decide) (hts _ u_1032) (fun _ h9 => h9) rfl dX9_carryOut_64 ?_
      refine lv_iload_n hx hb dX9_carryOut_67 rfl (lv_at hl 2 rfl) ?_
      refine lv_iload_n hx hb dX9_carryOut_68 rfl (lv_at hl 3 rfl) ?_
      refine w_V (own := RX9) (cs := [wPe G (va 10) (va 11) (va 12) v.2.2.2.2.1]) (rs := [[(qh0, .inr (11, [.ref (va 0), .ref q_snapshot, .int q.1, .ref q_history, .ref q_program, .ref q_notice, .int q.2.1, .int q.2.2]))], [((va 0), .inr (10, [.int v.1, .int v.2.1, .ref (va 1), .ref (va 6), .ref (va 10), .ref (va 13)]))], wDo G (va 1) (va 2) (va 3) (va 4) (va 5) v.2.2.1, wEx G (va 6) (va 7) (va 8) (va 9) v.2.2.2.1, wAu G (va 13) (va 14) (va 15) (va 16) (va 17) (va 18) (va 19) v.2.2.2.2.2]) (As := [.int x, .int y]) (rest := []) (c_X5_take l G (va 10) (va 11) (va 12) s.heap.size v.2.2.2.2.1 x y) ⟨hx, hb, hml, hown, hts⟩ g_X9_177 hdv_X5_take hK hST hS hP hD hA [4] [0, 1, 2, 3, 5] rfl rfl rfl (k0 := 0) rfl rfl rfl ⟨Nat.le_of_ble_eq_true rfl, Nat.le_of_ble_eq_true rfl⟩ ⟨Nat.le_of_ble_eq_true rfl, Nat.le_of_ble_eq_true rfl⟩ rfl hl.1 rfl (Nat.le_of_ble_eq_true rfl) dX9_carryOut_69 (fun u_6 H locs huu hP hD hS => ?_)
      have eu_6 := huu
      have hP : va_P G.1 vwCl (fl [wPe G (va 10) (va 11) (va 12) u_6.2, [(qh0, .inr (11, [.ref (va 0), .ref q_snapshot, .int q.1, .ref q_history, .ref q_program, .ref q_notice, .int q.2.1, .int q.2.2]))], [((va 0), .inr (10, [.int v.1, .int v.2.1, .ref (va 1), .ref (va 6), .ref (va 10), .ref (va 13)]))], wDo G (va 1) (va 2) (va 3) (va 4) (va 5) v.2.2.1, wEx G (va 6) (va 7) (va 8) (va 9) v.2.2.2.1, wAu G (va 13) (va 14) (va 15) (va 16) (va 17) (va 18) (va 19) v.2.2.2.2.2]) H := hP
      have hD : va_D A (fl [wPe G (va 10) (va 11) (va 12) u_6.2, [(qh0, .inr (11, [.ref (va 0), .ref q_snapshot, .int q.1, .ref q_history, .ref q_program, .ref q_notice, .int q.2.1, .int q.2.2]))], [((va 0), .inr (10, [.int v.1, .int v.2.1, .ref (va 1), .ref (va 6), .ref (va 10), .ref (va 13)]))], wDo G (va 1) (va 2) (va 3) (va 4) (va 5) v.2.2.1, wEx G (va 6) (va 7) (va 8) (va 9) v.2.2.2.1, wAu G (va 13) (va 14) (va 15) (va 16) (va 17) (va 18) (va 19) v.2.2.2.2.2]) := hD
      refine W.eq (g2 := F0 m 72 ls [.int u_6.1]) rfl ?_
      have hF : f_X9_carryOut q v vb x y = (v.1, v.2.1, v.2.2.1, v.2.2.2.1, u_6.2, v.2.2.2.2.2) := by subst eu_6; exact hF
      refine lv_pop hx hb dX9_carryOut_72 rfl ?_
      refine lv_goto (tgt := 152) hx hb dX9_carryOut_73 (by decide) ?_
      have hP := fl_sub (cs := [[(qh0, .inr (11, [.ref (va 0), .ref q_snapshot, .int q.1, .ref q_history, .ref q_program, .ref q_notice, .int q.2.1, .int q.2.2]))], [((va 0), .inr (10, [.int v.1, .int v.2.1, .ref (va 1), .ref (va 6), .ref (va 10), .ref (va 13)]))], wDo G (va 1) (va 2) (va 3) (va 4) (va 5) v.2.2.1, wEx G (va 6) (va 7) (va 8) (va 9) v.2.2.2.1, wPe G (va 10) (va 11) (va 12) u_6.2, wAu G (va 13) (va 14) (va 15) (va 16) (va 17) (va 18) (va 19) v.2.2.2.2.2]) [1, 2, 3, 4, 0, 5] rfl hP
      have hD := fl_subD (cs := [[(qh0, .inr (11, [.ref (va 0), .ref q_snapshot, .int q.1, .ref q_history, .ref q_program, .ref q_notice, .int q.2.1, .int q.2.2]))], [((va 0), .inr (10, [.int v.1, .int v.2.1, .ref (va 1), .ref (va 6), .ref (va 10), .ref (va 13)]))], wDo G (va 1) (va 2) (va 3) (va 4) (va 5) v.2.2.1, wEx G (va 6) (va 7) (va 8) (va 9) v.2.2.2.1, wPe G (va 10) (va 11) (va 12) u_6.2, wAu G (va 13) (va 14) (va 15) (va 16) (va 17) (va 18) (va 19) v.2.2.2.2.2]) [1, 2, 3, 4, 0, 5] rfl rfl hD
      exact w_retV (u := (v.1, v.2.1, v.2.2.1, v.2.2.2.1, u_6.2, v.2.2.2.2.2)) hx hb hr hlk hS rfl hF.symm hP hD (Nat.le_of_ble_eq_true rfl) (Nat.le_of_ble_eq_true rfl) dX9_carryOut_152
    · have hF := hF.trans (if_neg c_4)
      by_cases c_7 : vb = (2 : Int32)
      · have hF := hF.trans (if_pos c_7)
        refine lv_tableIn (off := 75) (tgt := 76) hx hb dX9_carryOut_1 (by rw [c_7]; decide) (by rw [c_7]; decide) (by rw [c_7]; rfl) (by decide) ?_
        refine lv_aload_n hx hb dX9_carryOut_76 rfl (lv_at hl 0 rfl) ?_
        refine va_get (D := G.1) (ci := 11) (v := .ref (va 0)) (C := RX9) (T := TX9) (N := 8) hx hb hts uws_X9 hown hK hP 0 rfl rfl 0 (by decide) (hts _ u_1097) (fun _ h9 => h9) rfl dX9_carryOut_77 ?_
        refine lv_iload_n hx hb dX9_carryOut_80 rfl (lv_at hl 2 rfl) ?_
        refine lv_iload_n hx hb dX9_carryOut_81 rfl (lv_at hl 3 rfl) ?_
        refine w_V (own := RX9) (cs := [[((va 0), .inr (10, [.int v.1, .int v.2.1, .ref (va 1), .ref (va 6), .ref (va 10), .ref (va 13)]))], wDo G (va 1) (va 2) (va 3) (va 4) (va 5) v.2.2.1, wEx G (va 6) (va 7) (va 8) (va 9) v.2.2.2.1, wPe G (va 10) (va 11) (va 12) v.2.2.2.2.1, wAu G (va 13) (va 14) (va 15) (va 16) (va 17) (va 18) (va 19) v.2.2.2.2.2]) (rs := [[(qh0, .inr (11, [.ref (va 0), .ref q_snapshot, .int q.1, .ref q_history, .ref q_program, .ref q_notice, .int q.2.1, .int q.2.2]))]]) (As := [.int x, .int y]) (rest := []) (c_X8_attempt l G va s.heap.size v x y) ⟨hx, hb, hml, hown, hts⟩ g_X9_183 hdv_X8_attempt hK hST hS hP hD hA [1, 2, 3, 4, 5] [0] rfl rfl rfl (k0 := 0) rfl rfl rfl ⟨Nat.le_of_ble_eq_true rfl, Nat.le_of_ble_eq_true rfl⟩ ⟨Nat.le_of_ble_eq_true rfl, Nat.le_of_ble_eq_true rfl⟩ rfl hl.1 rfl (Nat.le_of_ble_eq_true rfl) dX9_carryOut_82 (fun u_9 H locs huu hP hD hS => ?_)
        have eu_9 := huu
        have hP : va_P G.1 vwCl (fl [[((va 0), .inr (10, [.int u_9.2.1, .int u_9.2.2.1, .ref (va 1), .ref (va 6), .ref (va 10), .ref (va 13)]))], wDo G (va 1) (va 2) (va 3) (va 4) (va 5) u_9.2.2.2.1, wEx G (va 6) (va 7) (va 8) (va 9) u_9.2.2.2.2.1, wPe G (va 10) (va 11) (va 12) u_9.2.2.2.2.2.1, wAu G (va 13) (va 14) (va 15) (va 16) (va 17) (va 18) (va 19) u_9.2.2.2.2.2.2, [(qh0, .inr (11, [.ref (va 0), .ref q_snapshot, .int q.1, .ref q_history, .ref q_program, .ref q_notice, .int q.2.1, .int q.2.2]))]]) H := hP
        have hD : va_D A (fl [[((va 0), .inr (10, [.int u_9.2.1, .int u_9.2.2.1, .ref (va 1), .ref (va 6), .ref (va 10), .ref (va 13)]))], wDo G (va 1) (va 2) (va 3) (va 4) (va 5) u_9.2.2.2.1, wEx G (va 6) (va 7) (va 8) (va 9) u_9.2.2.2.2.1, wPe G (va 10) (va 11) (va 12) u_9.2.2.2.2.2.1, wAu G (va 13) (va 14) (va 15) (va 16) (va 17) (va 18) (va 19) u_9.2.2.2.2.2.2, [(qh0, .inr (11, [.ref (va 0), .ref q_snapshot, .int q.1, .ref q_history, .ref q_program, .ref q_notice, .int q.2.1, .int q.2.2]))]]) := hD
        refine W.eq (g2 := F0 m 85 ls [.int u_9.1]) rfl ?_
        have hF : f_X9_carryOut q v vb x y = u_9.2 := by subst eu_9; exact hF
        refine lv_pop hx hb dX9_carryOut_85 rfl ?_
        refine lv_goto (tgt := 152) hx hb dX9_carryOut_86 (by decide) ?_
        have hP := fl_sub (cs := [[(qh0, .inr (11, [.ref (va 0), .ref q_snapshot, .int q.1, .ref q_history, .ref q_program, .ref q_notice, .int q.2.1, .int q.2.2]))], [((va 0), .inr (10, [.int u_9.2.1, .int u_9.2.2.1, .ref (va 1), .ref (va 6), .ref (va 10), .ref (va 13)]))], wDo G (va 1) (va 2) (va 3) (va 4) (va 5) u_9.2.2.2.1, wEx G (va 6) (va 7) (va 8) (va 9) u_9.2.2.2.2.1, wPe G (va 10) (va 11) (va 12) u_9.2.2.2.2.2.1, wAu G (va 13) (va 14) (va 15) (va 16) (va 17) (va 18) (va 19) u_9.2.2.2.2.2.2]) [5, 0, 1, 2, 3, 4] rfl hP
        have hD := fl_subD (cs := [[(qh0, .inr (11, [.ref (va 0), .ref q_snapshot, .int q.1, .ref q_history, .ref q_program, .ref q_notice, .int q.2.1, .int q.2.2]))], [((va 0), .inr (10, [.int u_9.2.1, .int u_9.2.2.1, .ref (va 1), .ref (va 6), .ref (va 10), .ref (va 13)]))], wDo G (va 1) (va 2) (va 3) (va 4) (va 5) u_9.2.2.2.1, wEx G (va 6) (va 7) (va 8) (va 9) u_9.2.2.2.2.1, wPe G (va 10) (va 11) (va 12) u_9.2.2.2.2.2.1, wAu G (va 13) (va 14) (va 15) (va 16) (va 17) (va 18) (va 19) u_9.2.2.2.2.2.2]) [5, 0, 1, 2, 3, 4] rfl rfl hD
        exact w_retV (u := u_9.2) hx hb hr hlk hS rfl hF.symm hP hD (Nat.le_of_ble_eq_true rfl) (Nat.le_of_ble_eq_true rfl) dX9_carryOut_152
      · have hF := hF.trans (if_neg c_7)
        by_cases c_10 : vb = (3 : Int32)
        · have hF := hF.trans (if_pos c_10)
          refine lv_tableIn (off := 88) (tgt := 89) hx hb dX9_carryOut_1 (by rw [c_10]; decide) (by rw [c_10]; decide) (by rw [c_10]; rfl) (by decide) ?_
          refine lv_aload_n hx hb dX9_carryOut_89 rfl (lv_at hl 0 rfl) ?_
          refine va_get (D := G.1) (ci := 11) (v := .ref (va 0)) (C := RX9) (T := TX9) (N := 8) hx hb hts uws_X9 hown hK hP 0 rfl rfl 0 (by decide) (hts _ u_1097) (fun _ h9 => h9) rfl dX9_carryOut_90 ?_
          refine va_get (D := G.1) (ci := 10) (v := .ref (va 6)) (C := RX8) (T := TX8) (N := 6) hx hb hts uws_X8 hown hK hP 1 rfl rfl 3 (by decide) (hts _ u_1030) (fun _ h9 => h9) rfl dX9_carryOut_93 ?_
          refine lv_iload_n hx hb dX9_carryOut_96 rfl (lv_at hl 2 rfl) ?_
          refine lv_iload_n hx hb dX9_carryOut_97 rfl (lv_at hl 3 rfl) ?_
          refine lv_iload_n hx hb dX9_carryOut_98 rfl (lv_at hl 1 rfl) ?_
          refine lv_iconst (v := (3 : Int32)) hx hb dX9_carryOut_99 (by decide) ?_
          refine lv_icmp_ne (tgt := 107) hx hb dX9_carryOut_100 (by decide) (fun c_11 => ?_) (fun c_11 => ?_)
          · exact absurd c_10 c_11
          · refine lv_iconst (v := (1 : Int32)) hx hb dX9_carryOut_103 (by decide) ?_
            refine lv_goto (tgt := 108) hx hb dX9_carryOut_104 (by decide) ?_
            refine w_V (own := RX9) (cs := [wEx G (va 6) (va 7) (va 8) (va 9) v.2.2.2.1]) (rs := [[(qh0, .inr (11, [.ref (va 0), .ref q_snapshot, .int q.1, .ref q_history, .ref q_program, .ref q_notice, .int q.2.1, .int q.2.2]))], [((va 0), .inr (10, [.int v.1, .int v.2.1, .ref (va 1), .ref (va 6), .ref (va 10), .ref (va 13)]))], wDo G (va 1) (va 2) (va 3) (va 4) (va 5) v.2.2.1, wPe G (va 10) (va 11) (va 12) v.2.2.2.2.1, wAu G (va 13) (va 14) (va 15) (va 16) (va 17) (va 18) (va 19) v.2.2.2.2.2]) (As := [.int x, .int y, .int (1 : Int32)]) (rest := []) (c_X1_insert l G (va 6) (va 7) (va 8) (va 9) s.heap.size v.2.2.2.1 x y (1 : Int32)) ⟨hx, hb, hml, hown, hts⟩ g_X9_96 hdv_X1_insert hK hST hS hP hD hA [3] [0, 1, 2, 4, 5] rfl rfl rfl (k0 := 0) rfl rfl rfl ⟨Nat.le_of_ble_eq_true rfl, Nat.le_of_ble_eq_true rfl⟩ ⟨Nat.le_of_ble_eq_true rfl, Nat.le_of_ble_eq_true rfl⟩ rfl hl.1 rfl (Nat.le_of_ble_eq_true rfl) dX9_carryOut_108 (fun u_13 H locs huu hP hD hS => ?_)
            have eu_13 := huu
            have hP : va_P G.1 vwCl (fl [wEx G (va 6) (va 7) (va 8) (va 9) u_13.2, [(qh0, .inr (11, [.ref (va 0), .ref q_snapshot, .int q.1, .ref q_history, .ref q_program, .ref q_notice, .int q.2.1, .int q.2.2]))], [((va 0), .inr (10, [.int v.1, .int v.2.1, .ref (va 1), .ref (va 6), .ref (va 10), .ref (va 13)]))], wDo G (va 1) (va 2) (va 3) (va 4) (va 5) v.2.2.1, wPe G (va 10) (va 11) (va 12) v.2.2.2.2.1, wAu G (va 13) (va 14) (va 15) (va 16) (va 17) (va 18) (va 19) v.2.2.2.2.2]) H := hP
            have hD : va_D A (fl [wEx G (va 6) (va 7) (va 8) (va 9) u_13.2, [(qh0, .inr (11, [.ref (va 0), .ref q_snapshot, .int q.1, .ref q_history, .ref q_program, .ref q_notice, .int q.2.1, .int q.2.2]))], [((va 0), .inr (10, [.int v.1, .int v.2.1, .ref (va 1), .ref (va 6), .ref (va 10), .ref (va 13)]))], wDo G (va 1) (va 2) (va 3) (va 4) (va 5) v.2.2.1, wPe G (va 10) (va 11) (va 12) v.2.2.2.2.1, wAu G (va 13) (va 14) (va 15) (va 16) (va 17) (va 18) (va 19) v.2.2.2.2.2]) := hD
            refine W.eq (g2 := F0 m 111 ls [.int u_13.1]) rfl ?_
            have hF : f_X9_carryOut q v vb x y = (v.1, v.2.1, v.2.2.1, u_13.2, v.2.2.2.2.1, v.2.2.2.2.2) := by subst eu_13; exact hF
            refine lv_pop hx hb dX9_carryOut_111 rfl ?_
            refine lv_goto (tgt := 152) hx hb dX9_carryOut_112 (by decide) ?_
            have hP := fl_sub (cs := [[(qh0, .inr (11, [.ref (va 0), .ref q_snapshot, .int q.1, .ref q_history, .ref q_program, .ref q_notice, .int q.2.1, .int q.2.2]))], [((va 0), .inr (10, [.int v.1, .int v.2.1, .ref (va 1), .ref (va 6), .ref (va 10), .ref (va 13)]))], wDo G (va 1) (va 2) (va 3) (va 4) (va 5) v.2.2.1, wEx G (va 6) (va 7) (va 8) (va 9) u_13.2, wPe G (va 10) (va 11) (va 12) v.2.2.2.2.1, wAu G (va 13) (va 14) (va 15) (va 16) (va 17) (va 18) (va 19) v.2.2.2.2.2]) [1, 2, 3, 0, 4, 5] rfl hP
            have hD := fl_subD (cs := [[(qh0, .inr (11, [.ref (va 0), .ref q_snapshot, .int q.1, .ref q_history, .ref q_program, .ref q_notice, .int q.2.1, .int q.2.2]))], [((va 0), .inr (10, [.int v.1, .int v.2.1, .ref (va 1), .ref (va 6), .ref (va 10), .ref (va 13)]))], wDo G (va 1) (va 2) (va 3) (va 4) (va 5) v.2.2.1, wEx G (va 6) (va 7) (va 8) (va 9) u_13.2, wPe G (va 10) (va 11) (va 12) v.2.2.2.2.1, wAu G (va 13) (va 14) (va 15) (va 16) (va 17) (va 18) (va 19) v.2.2.2.2.2]) [1, 2, 3, 0, 4, 5] rfl rfl hD
            exact w_retV (u := (v.1, v.2.1, v.2.2.1, u_13.2, v.2.2.2.2.1, v.2.2.2.2.2)) hx hb hr hlk hS rfl hF.symm hP hD (Nat.le_of_ble_eq_true rfl) (Nat.le_of_ble_eq_true rfl) dX9_carryOut_152
        · have hF := hF.trans (if_neg c_10)
          by_cases c_14 : vb = (4 : Int32)
          · have hF := hF.trans (if_pos c_14)
            refine lv_tableIn (off := 88) (tgt := 89) hx hb dX9_carryOut_1 (by rw [c_14]; decide) (by rw [c_14]; decide) (by rw [c_14]; rfl) (by decide) ?_
            refine lv_aload_n hx hb dX9_carryOut_89 rfl (lv_at hl 0 rfl) ?_
            refine va_get (D := G.1) (ci := 11) (v := .ref (va 0)) (C := RX9) (T := TX9) (N := 8) hx hb hts uws_X9 hown hK hP 0 rfl rfl 0 (by decide) (hts _ u_1097) (fun _ h9 => h9) rfl dX9_carryOut_90 ?_
            refine va_get (D := G.1) (ci := 10) (v := .ref (va 6)) (C := RX8) (T := TX8) (N := 6) hx hb hts uws_X8 hown hK hP 1 rfl rfl 3 (by decide) (hts _ u_1030) (fun _ h9 => h9) rfl dX9_carryOut_93 ?_
            refine lv_iload_n hx hb dX9_carryOut_96 rfl (lv_at hl 2 rfl) ?_
            refine lv_iload_n hx hb dX9_carryOut_97 rfl (lv_at hl 3 rfl) ?_
            refine lv_iload_n hx hb dX9_carryOut_98 rfl (lv_at hl 1 rfl) ?_
            refine lv_iconst (v := (3 : Int32)) hx hb dX9_carryOut_99 (by decide) ?_
            refine lv_icmp_ne (tgt := 107) hx hb dX9_carryOut_100 (by decide) (fun c_15 => ?_) (fun c_15 => ?_)
            · refine lv_iconst (v := (0 : Int32)) hx hb dX9_carryOut_107 (by decide) ?_
              refine w_V (own := RX9) (cs := [wEx G (va 6) (va 7) (va 8) (va 9) v.2.2.2.1]) (rs := [[(qh0, .inr (11, [.ref (va 0), .ref q_snapshot, .int q.1, .ref q_history, .ref q_program, .ref q_notice, .int q.2.1, .int q.2.2]))], [((va 0), .inr (10, [.int v.1, .int v.2.1, .ref (va 1), .ref (va 6), .ref (va 10), .ref (va 13)]))], wDo G (va 1) (va 2) (va 3) (va 4) (va 5) v.2.2.1, wPe G (va 10) (va 11) (va 12) v.2.2.2.2.1, wAu G (va 13) (va 14) (va 15) (va 16) (va 17) (va 18) (va 19) v.2.2.2.2.2]) (As := [.int x, .int y, .int (0 : Int32)]) (rest := []) (c_X1_insert l G (va 6) (va 7) (va 8) (va 9) s.heap.size v.2.2.2.1 x y (0 : Int32)) ⟨hx, hb, hml, hown, hts⟩ g_X9_96 hdv_X1_insert hK hST hS hP hD hA [3] [0, 1, 2, 4, 5] rfl rfl rfl (k0 := 0) rfl rfl rfl ⟨Nat.le_of_ble_eq_true rfl, Nat.le_of_ble_eq_true rfl⟩ ⟨Nat.le_of_ble_eq_true rfl, Nat.le_of_ble_eq_true rfl⟩ rfl hl.1 rfl (Nat.le_of_ble_eq_true rfl) dX9_carryOut_108 (fun u_17 H locs huu hP hD hS => ?_)
              have eu_17 := huu
              have hP : va_P G.1 vwCl (fl [wEx G (va 6) (va 7) (va 8) (va 9) u_17.2, [(qh0, .inr (11, [.ref (va 0), .ref q_snapshot, .int q.1, .ref q_history, .ref q_program, .ref q_notice, .int q.2.1, .int q.2.2]))], [((va 0), .inr (10, [.int v.1, .int v.2.1, .ref (va 1), .ref (va 6), .ref (va 10), .ref (va 13)]))], wDo G (va 1) (va 2) (va 3) (va 4) (va 5) v.2.2.1, wPe G (va 10) (va 11) (va 12) v.2.2.2.2.1, wAu G (va 13) (va 14) (va 15) (va 16) (va 17) (va 18) (va 19) v.2.2.2.2.2]) H := hP
              have hD : va_D A (fl [wEx G (va 6) (va 7) (va 8) (va 9) u_17.2, [(qh0, .inr (11, [.ref (va 0), .ref q_snapshot, .int q.1, .ref q_history, .ref q_program, .ref q_notice, .int q.2.1, .int q.2.2]))], [((va 0), .inr (10, [.int v.1, .int v.2.1, .ref (va 1), .ref (va 6), .ref (va 10), .ref (va 13)]))], wDo G (va 1) (va 2) (va 3) (va 4) (va 5) v.2.2.1, wPe G (va 10) (va 11) (va 12) v.2.2.2.2.1, wAu G (va 13) (va 14) (va 15) (va 16) (va 17) (va 18) (va 19) v.2.2.2.2.2]) := hD
              refine W.eq (g2 := F0 m 111 ls [.int u_17.1]) rfl ?_
              have hF : f_X9_carryOut q v vb x y = (v.1, v.2.1, v.2.2.1, u_17.2, v.2.2.2.2.1, v.2.2.2.2.2) := by subst eu_17; exact hF
              refine lv_pop hx hb dX9_carryOut_111 rfl ?_
              refine lv_goto (tgt := 152) hx hb dX9_carryOut_112 (by decide) ?_
              have hP := fl_sub (cs := [[(qh0, .inr (11, [.ref (va 0), .ref q_snapshot, .int q.1, .ref q_history, .ref q_program, .ref q_notice, .int q.2.1, .int q.2.2]))], [((va 0), .inr (10, [.int v.1, .int v.2.1, .ref (va 1), .ref (va 6), .ref (va 10), .ref (va 13)]))], wDo G (va 1) (va 2) (va 3) (va 4) (va 5) v.2.2.1, wEx G (va 6) (va 7) (va 8) (va 9) u_17.2, wPe G (va 10) (va 11) (va 12) v.2.2.2.2.1, wAu G (va 13) (va 14) (va 15) (va 16) (va 17) (va 18) (va 19) v.2.2.2.2.2]) [1, 2, 3, 0, 4, 5] rfl hP
              have hD := fl_subD (cs := [[(qh0, .inr (11, [.ref (va 0), .ref q_snapshot, .int q.1, .ref q_history, .ref q_program, .ref q_notice, .int q.2.1, .int q.2.2]))], [((va 0), .inr (10, [.int v.1, .int v.2.1, .ref (va 1), .ref (va 6), .ref (va 10), .ref (va 13)]))], wDo G (va 1) (va 2) (va 3) (va 4) (va 5) v.2.2.1, wEx G (va 6) (va 7) (va 8) (va 9) u_17.2, wPe G (va 10) (va 11) (va 12) v.2.2.2.2.1, wAu G (va 13) (va 14) (va 15) (va 16) (va 17) (va 18) (va 19) v.2.2.2.2.2]) [1, 2, 3, 0, 4, 5] rfl rfl hD
              exact w_retV (u := (v.1, v.2.1, v.2.2.1, u_17.2, v.2.2.2.2.1, v.2.2.2.2.2)) hx hb hr hlk hS rfl hF.symm hP hD (Nat.le_of_ble_eq_true rfl) (Nat.le_of_ble_eq_true rfl) dX9_carryOut_152
            · exact absurd c_15 c_10
          · have hF := hF.trans (if_neg c_14)
            by_cases c_18 : vb = (5 : Int32)
            · have hF := hF.trans (if_pos c_18)
              refine lv_tableIn (off := 114) (tgt := 115) hx hb dX9_carryOut_1 (by rw [c_18]; decide) (by rw [c_18]; decide) (by rw [c_18]; rfl) (by decide) ?_
              refine lv_aload_n hx hb dX9_carryOut_115 rfl (lv_at hl 0 rfl) ?_
              refine va_get (D := G.1) (ci := 11) (v := .ref (va 0)) (C := RX9) (T := TX9) (N := 8) hx hb hts uws_X9 hown hK hP 0 rfl rfl 0 (by decide) (hts _ u_1097) (fun _ h9 => h9) rfl dX9_carryOut_116 ?_
              refine va_get (D := G.1) (ci := 10) (v := .ref (va 6)) (C := RX8) (T := TX8) (N := 6) hx hb hts uws_X8 hown hK hP 1 rfl rfl 3 (by decide) (hts _ u_1030) (fun _ h9 => h9) rfl dX9_carryOut_119 ?_
              refine lv_iload_n hx hb dX9_carryOut_122 rfl (lv_at hl 2 rfl) ?_
              refine lv_iload_n hx hb dX9_carryOut_123 rfl (lv_at hl 3 rfl) ?_
              refine w_V (own := RX9) (cs := [wEx G (va 6) (va 7) (va 8) (va 9) v.2.2.2.1]) (rs := [[(qh0, .inr (11, [.ref (va 0), .ref q_snapshot, .int q.1, .ref q_history, .ref q_program, .ref q_notice, .int q.2.1, .int q.2.2]))], [((va 0), .inr (10, [.int v.1, .int v.2.1, .ref (va 1), .ref (va 6), .ref (va 10), .ref (va 13)]))], wDo G (va 1) (va 2) (va 3) (va 4) (va 5) v.2.2.1, wPe G (va 10) (va 11) (va 12) v.2.2.2.2.1, wAu G (va 13) (va 14) (va 15) (va 16) (va 17) (va 18) (va 19) v.2.2.2.2.2]) (As := [.int x, .int y]) (rest := []) (c_X1_remove l G (va 6) (va 7) (va 8) (va 9) s.heap.size v.2.2.2.1 x y) ⟨hx, hb, hml, hown, hts⟩ g_X9_105 hdv_X1_remove hK hST hS hP hD hA [3] [0, 1, 2, 4, 5] rfl rfl rfl (k0 := 0) rfl rfl rfl ⟨Nat.le_of_ble_eq_true rfl, Nat.le_of_ble_eq_true rfl⟩ ⟨Nat.le_of_ble_eq_true rfl, Nat.le_of_ble_eq_true rfl⟩ rfl hl.1 rfl (Nat.le_of_ble_eq_true rfl) dX9_carryOut_124 (fun u_20 H locs huu hP hD hS => ?_)
              obtain ⟨huu, b_19⟩ := huu
              rw [← huu] at b_19
              have eu_20 := huu
              have hP : va_P G.1 vwCl (fl [wEx G (va 6) (va 7) (va 8) (va 9) u_20.2, [(qh0, .inr (11, [.ref (va 0), .ref q_snapshot, .int q.1, .ref q_history, .ref q_program, .ref q_notice, .int q.2.1, .int q.2.2]))], [((va 0), .inr (10, [.int v.1, .int v.2.1, .ref (va 1), .ref (va 6), .ref (va 10), .ref (va 13)]))], wDo G (va 1) (va 2) (va 3) (va 4) (va 5) v.2.2.1, wPe G (va 10) (va 11) (va 12) v.2.2.2.2.1, wAu G (va 13) (va 14) (va 15) (va 16) (va 17) (va 18) (va 19) v.2.2.2.2.2]) H := hP
              have hD : va_D A (fl [wEx G (va 6) (va 7) (va 8) (va 9) u_20.2, [(qh0, .inr (11, [.ref (va 0), .ref q_snapshot, .int q.1, .ref q_history, .ref q_program, .ref q_notice, .int q.2.1, .int q.2.2]))], [((va 0), .inr (10, [.int v.1, .int v.2.1, .ref (va 1), .ref (va 6), .ref (va 10), .ref (va 13)]))], wDo G (va 1) (va 2) (va 3) (va 4) (va 5) v.2.2.1, wPe G (va 10) (va 11) (va 12) v.2.2.2.2.1, wAu G (va 13) (va 14) (va 15) (va 16) (va 17) (va 18) (va 19) v.2.2.2.2.2]) := hD
              refine W.eq (g2 := F0 m 127 ls [.int u_20.1]) rfl ?_
              have hF : f_X9_carryOut q v vb x y = (v.1, v.2.1, v.2.2.1, u_20.2, v.2.2.2.2.1, v.2.2.2.2.2) := by subst eu_20; exact hF
              refine lv_pop hx hb dX9_carryOut_127 rfl ?_
              refine lv_goto (tgt := 152) hx hb dX9_carryOut_128 (by decide) ?_
              have hP := fl_sub (cs := [[(qh0, .inr (11, [.ref (va 0), .ref q_snapshot, .int q.1, .ref q_history, .ref q_program, .ref q_notice, .int q.2.1, .int q.2.2]))], [((va 0), .inr (10, [.int v.1, .int v.2.1, .ref (va 1), .ref (va 6), .ref (va 10), .ref (va 13)]))], wDo G (va 1) (va 2) (va 3) (va 4) (va 5) v.2.2.1, wEx G (va 6) (va 7) (va 8) (va 9) u_20.2, wPe G (va 10) (va 11) (va 12) v.2.2.2.2.1, wAu G (va 13) (va 14) (va 15) (va 16) (va 17) (va 18) (va 19) v.2.2.2.2.2]) [1, 2, 3, 0, 4, 5] rfl hP
              have hD := fl_subD (cs := [[(qh0, .inr (11, [.ref (va 0), .ref q_snapshot, .int q.1, .ref q_history, .ref q_program, .ref q_notice, .int q.2.1, .int q.2.2]))], [((va 0), .inr (10, [.int v.1, .int v.2.1, .ref (va 1), .ref (va 6), .ref (va 10), .ref (va 13)]))], wDo G (va 1) (va 2) (va 3) (va 4) (va 5) v.2.2.1, wEx G (va 6) (va 7) (va 8) (va 9) u_20.2, wPe G (va 10) (va 11) (va 12) v.2.2.2.2.1, wAu G (va 13) (va 14) (va 15) (va 16) (va 17) (va 18) (va 19) v.2.2.2.2.2]) [1, 2, 3, 0, 4, 5] rfl rfl hD
              exact w_retV (u := (v.1, v.2.1, v.2.2.1, u_20.2, v.2.2.2.2.1, v.2.2.2.2.2)) hx hb hr hlk hS rfl hF.symm hP hD (Nat.le_of_ble_eq_true rfl) (Nat.le_of_ble_eq_true rfl) dX9_carryOut_152
            · have hF := hF.trans (if_neg c_18)
              by_cases c_21 : vb = (6 : Int32)
              · have hF := hF.trans (if_pos c_21)
                refine lv_tableIn (off := 130) (tgt := 131) hx hb dX9_carryOut_1 (by rw [c_21]; decide) (by rw [c_21]; decide) (by rw [c_21]; rfl) (by decide) ?_
                refine lv_aload_n hx hb dX9_carryOut_131 rfl (lv_at hl 0 rfl) ?_
                refine va_get (D := G.1) (ci := 11) (v := .ref (va 0)) (C := RX9) (T := TX9) (N := 8) hx hb hts uws_X9 hown hK hP 0 rfl rfl 0 (by decide) (hts _ u_1097) (fun _ h9 => h9) rfl dX9_carryOut_132 ?_
                refine lv_iload_n hx hb dX9_carryOut_135 rfl (lv_at hl 2 rfl) ?_
                refine w_V (own := RX9) (cs := [[((va 0), .inr (10, [.int v.1, .int v.2.1, .ref (va 1), .ref (va 6), .ref (va 10), .ref (va 13)]))], wDo G (va 1) (va 2) (va 3) (va 4) (va 5) v.2.2.1, wEx G (va 6) (va 7) (va 8) (va 9) v.2.2.2.1, wPe G (va 10) (va 11) (va 12) v.2.2.2.2.1, wAu G (va 13) (va 14) (va 15) (va 16) (va 17) (va 18) (va 19) v.2.2.2.2.2]) (rs := [[(qh0, .inr (11, [.ref (va 0), .ref q_snapshot, .int q.1, .ref q_history, .ref q_program, .ref q_notice, .int q.2.1, .int q.2.2]))]]) (As := [.int x]) (rest := []) (c_X8_changeCycle l G va s.heap.size (v.1, v.2.1, v.2.2.1, v.2.2.2.1, v.2.2.2.2.1, v.2.2.2.2.2) x) ⟨hx, hb, hml, hown, hts⟩ g_X9_113 hdv_X8_changeCycle hK hST hS hP hD hA [1, 2, 3, 4, 5] [0] rfl rfl rfl (k0 := 0) rfl rfl rfl ⟨Nat.le_of_ble_eq_true rfl, Nat.le_of_ble_eq_true rfl⟩ ⟨Nat.le_of_ble_eq_true rfl, Nat.le_of_ble_eq_true rfl⟩ rfl hl.1 rfl (Nat.le_of_ble_eq_true rfl) dX9_carryOut_136 (fun u_23 H locs huu hP hD hS => ?_)
                have eu_23 := huu
                have hP : va_P G.1 vwCl (fl [[((va 0), .inr (10, [.int u_23.2.1, .int u_23.2.2.1, .ref (va 1), .ref (va 6), .ref (va 10), .ref (va 13)]))], wDo G (va 1) (va 2) (va 3) (va 4) (va 5) u_23.2.2.2.1, wEx G (va 6) (va 7) (va 8) (va 9) u_23.2.2.2.2.1, wPe G (va 10) (va 11) (va 12) u_23.2.2.2.2.2.1, wAu G (va 13) (va 14) (va 15) (va 16) (va 17) (va 18) (va 19) u_23.2.2.2.2.2.2, [(qh0, .inr (11, [.ref (va 0), .ref q_snapshot, .int q.1, .ref q_history, .ref q_program, .ref q_notice, .int q.2.1, .int q.2.2]))]]) H := hP
                have hD : va_D A (fl [[((va 0), .inr (10, [.int u_23.2.1, .int u_23.2.2.1, .ref (va 1), .ref (va 6), .ref (va 10), .ref (va 13)]))], wDo G (va 1) (va 2) (va 3) (va 4) (va 5) u_23.2.2.2.1, wEx G (va 6) (va 7) (va 8) (va 9) u_23.2.2.2.2.1, wPe G (va 10) (va 11) (va 12) u_23.2.2.2.2.2.1, wAu G (va 13) (va 14) (va 15) (va 16) (va 17) (va 18) (va 19) u_23.2.2.2.2.2.2, [(qh0, .inr (11, [.ref (va 0), .ref q_snapshot, .int q.1, .ref q_history, .ref q_program, .ref q_notice, .int q.2.1, .int q.2.2]))]]) := hD
                refine W.eq (g2 := F0 m 139 ls [.int u_23.1]) rfl ?_
                have hF : f_X9_carryOut q v vb x y = u_23.2 := by subst eu_23; exact hF
                refine lv_pop hx hb dX9_carryOut_139 rfl ?_
                refine lv_goto (tgt := 152) hx hb dX9_carryOut_140 (by decide) ?_
                have hP := fl_sub (cs := [[(qh0, .inr (11, [.ref (va 0), .ref q_snapshot, .int q.1, .ref q_history, .ref q_program, .ref q_notice, .int q.2.1, .int q.2.2]))], [((va 0), .inr (10, [.int u_23.2.1, .int u_23.2.2.1, .ref (va 1), .ref (va 6), .ref (va 10), .ref (va 13)]))], wDo G (va 1) (va 2) (va 3) (va 4) (va 5) u_23.2.2.2.1, wEx G (va 6) (va 7) (va 8) (va 9) u_23.2.2.2.2.1, wPe G (va 10) (va 11) (va 12) u_23.2.2.2.2.2.1, wAu G (va 13) (va 14) (va 15) (va 16) (va 17) (va 18) (va 19) u_23.2.2.2.2.2.2]) [5, 0, 1, 2, 3, 4] rfl hP
                have hD := fl_subD (cs := [[(qh0, .inr (11, [.ref (va 0), .ref q_snapshot, .int q.1, .ref q_history, .ref q_program, .ref q_notice, .int q.2.1, .int q.2.2]))], [((va 0), .inr (10, [.int u_23.2.1, .int u_23.2.2.1, .ref (va 1), .ref (va 6), .ref (va 10), .ref (va 13)]))], wDo G (va 1) (va 2) (va 3) (va 4) (va 5) u_23.2.2.2.1, wEx G (va 6) (va 7) (va 8) (va 9) u_23.2.2.2.2.1, wPe G (va 10) (va 11) (va 12) u_23.2.2.2.2.2.1, wAu G (va 13) (va 14) (va 15) (va 16) (va 17) (va 18) (va 19) u_23.2.2.2.2.2.2]) [5, 0, 1, 2, 3, 4] rfl rfl hD
                exact w_retV (u := u_23.2) hx hb hr hlk hS rfl hF.symm hP hD (Nat.le_of_ble_eq_true rfl) (Nat.le_of_ble_eq_true rfl) dX9_carryOut_152
              · have hF := hF.trans (if_neg c_21)
                refine lv_tableOut (tgt := 143) hx hb dX9_carryOut_1 (by
                    have g0 : (vb).toInt ≠ 0 := fun e => c_1 (Int32.toInt_inj.mp (e.trans (by decide)))
                    have g1 : (vb).toInt ≠ 1 := fun e => c_4 (Int32.toInt_inj.mp (e.trans (by decide)))
                    have g2 : (vb).toInt ≠ 2 := fun e => c_7 (Int32.toInt_inj.mp (e.trans (by decide)))
                    have g3 : (vb).toInt ≠ 3 := fun e => c_10 (Int32.toInt_inj.mp (e.trans (by decide)))
                    have g4 : (vb).toInt ≠ 4 := fun e => c_14 (Int32.toInt_inj.mp (e.trans (by decide)))
                    have g5 : (vb).toInt ≠ 5 := fun e => c_18 (Int32.toInt_inj.mp (e.trans (by decide)))
                    have g6 : (vb).toInt ≠ 6 := fun e => c_21 (Int32.toInt_inj.mp (e.trans (by decide)))
                    omega) (by decide) ?_
                refine lv_aload_n hx hb dX9_carryOut_143 rfl (lv_at hl 0 rfl) ?_
                refine va_get (D := G.1) (ci := 11) (v := .ref (va 0)) (C := RX9) (T := TX9) (N := 8) hx hb hts uws_X9 hown hK hP 0 rfl rfl 0 (by decide) (hts _ u_1097) (fun _ h9 => h9) rfl dX9_carryOut_144 ?_
                refine lv_iload_n hx hb dX9_carryOut_147 rfl (lv_at hl 2 rfl) ?_
                refine w_V (own := RX9) (cs := [[((va 0), .inr (10, [.int v.1, .int v.2.1, .ref (va 1), .ref (va 6), .ref (va 10), .ref (va 13)]))], wDo G (va 1) (va 2) (va 3) (va 4) (va 5) v.2.2.1, wEx G (va 6) (va 7) (va 8) (va 9) v.2.2.2.1, wPe G (va 10) (va 11) (va 12) v.2.2.2.2.1, wAu G (va 13) (va 14) (va 15) (va 16) (va 17) (va 18) (va 19) v.2.2.2.2.2]) (rs := [[(qh0, .inr (11, [.ref (va 0), .ref q_snapshot, .int q.1, .ref q_history, .ref q_program, .ref q_notice, .int q.2.1, .int q.2.2]))]]) (As := [.int x]) (rest := []) (c_X8_passHours l G va s.heap.size (v.1, v.2.1, v.2.2.1, v.2.2.2.1, v.2.2.2.2.1, v.2.2.2.2.2) x) ⟨hx, hb, hml, hown, hts⟩ g_X9_210 hdv_X8_passHours hK hST hS hP hD hA [1, 2, 3, 4, 5] [0] rfl rfl rfl (k0 := 0) rfl rfl rfl ⟨Nat.le_of_ble_eq_true rfl, Nat.le_of_ble_eq_true rfl⟩ ⟨Nat.le_of_ble_eq_true rfl, Nat.le_of_ble_eq_true rfl⟩ rfl hl.1 rfl (Nat.le_of_ble_eq_true rfl) dX9_carryOut_148 (fun u_25 H locs huu hP hD hS => ?_)
                have eu_25 := huu
                have hP : va_P G.1 vwCl (fl [[((va 0), .inr (10, [.int u_25.2.1, .int u_25.2.2.1, .ref (va 1), .ref (va 6), .ref (va 10), .ref (va 13)]))], wDo G (va 1) (va 2) (va 3) (va 4) (va 5) u_25.2.2.2.1, wEx G (va 6) (va 7) (va 8) (va 9) u_25.2.2.2.2.1, wPe G (va 10) (va 11) (va 12) u_25.2.2.2.2.2.1, wAu G (va 13) (va 14) (va 15) (va 16) (va 17) (va 18) (va 19) u_25.2.2.2.2.2.2, [(qh0, .inr (11, [.ref (va 0), .ref q_snapshot, .int q.1, .ref q_history, .ref q_program, .ref q_notice, .int q.2.1, .int q.2.2]))]]) H := hP
                have hD : va_D A (fl [[((va 0), .inr (10, [.int u_25.2.1, .int u_25.2.2.1, .ref (va 1), .ref (va 6), .ref (va 10), .ref (va 13)]))], wDo G (va 1) (va 2) (va 3) (va 4) (va 5) u_25.2.2.2.1, wEx G (va 6) (va 7) (va 8) (va 9) u_25.2.2.2.2.1, wPe G (va 10) (va 11) (va 12) u_25.2.2.2.2.2.1, wAu G (va 13) (va 14) (va 15) (va 16) (va 17) (va 18) (va 19) u_25.2.2.2.2.2.2, [(qh0, .inr (11, [.ref (va 0), .ref q_snapshot, .int q.1, .ref q_history, .ref q_program, .ref q_notice, .int q.2.1, .int q.2.2]))]]) := hD
                refine W.eq (g2 := F0 m 151 ls [.int u_25.1]) rfl ?_
                have hF : f_X9_carryOut q v vb x y = u_25.2 := by subst eu_25; exact hF
                refine lv_pop hx hb dX9_carryOut_151 rfl ?_
                have hP := fl_sub (cs := [[(qh0, .inr (11, [.ref (va 0), .ref q_snapshot, .int q.1, .ref q_history, .ref q_program, .ref q_notice, .int q.2.1, .int q.2.2]))], [((va 0), .inr (10, [.int u_25.2.1, .int u_25.2.2.1, .ref (va 1), .ref (va 6), .ref (va 10), .ref (va 13)]))], wDo G (va 1) (va 2) (va 3) (va 4) (va 5) u_25.2.2.2.1, wEx G (va 6) (va 7) (va 8) (va 9) u_25.2.2.2.2.1, wPe G (va 10) (va 11) (va 12) u_25.2.2.2.2.2.1, wAu G (va 13) (va 14) (va 15) (va 16) (va 17) (va 18) (va 19) u_25.2.2.2.2.2.2]) [5, 0, 1, 2, 3, 4] rfl hP
                have hD := fl_subD (cs := [[(qh0, .inr (11, [.ref (va 0), .ref q_snapshot, .int q.1, .ref q_history, .ref q_program, .ref q_notice, .int q.2.1, .int q.2.2]))], [((va 0), .inr (10, [.int u_25.2.1, .int u_25.2.2.1, .ref (va 1), .ref (va 6), .ref (va 10), .ref (va 13)]))], wDo G (va 1) (va 2) (va 3) (va 4) (va 5) u_25.2.2.2.1, wEx G (va 6) (va 7) (va 8) (va 9) u_25.2.2.2.2.1, wPe G (va 10) (va 11) (va 12) u_25.2.2.2.2.2.1, wAu G (va 13) (va 14) (va 15) (va 16) (va 17) (va 18) (va 19) u_25.2.2.2.2.2.2]) [5, 0, 1, 2, 3, 4] rfl rfl hD
                exact w_retV (u := u_25.2) hx hb hr hlk hS rfl hF.symm hP hD (Nat.le_of_ble_eq_true rfl) (Nat.le_of_ble_eq_true rfl) dX9_carryOut_152
