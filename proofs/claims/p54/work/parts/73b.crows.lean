/-! ===== more forms: methods with handlers, calls that may throw behind a change, new objects and arrays ===== -/
theorem Met_ofFW {l : Launch} {y : MethodName} {ws ws' : List Cond} {rm : Room} {Pc : Array Value → State → Prop} {Qc : Array Value → State → Outcome → State → Prop} {mc ms : Nat} {free : Addr → Prop} {cc : ByteArray} {maxL : Nat} {ret : Option FieldType} {hh : List (Nat × Nat × Nat × Nat)}
    (hy : plainFor y = true) (hw : ws = Cond.codeWith y cc maxL ret hh :: ws')
    (body : ∀ p e s m args below meth c s₁, BodyLoose p l y (headSpec ws rm) cc maxL ret e s m args below meth c s₁ → c.maxLocals = maxL → c.exceptionTable.toList = tableOf hh → Pc args s →
      W p l e (headSpec ws rm).room s m args below meth c s.heap [] 0 0 (MQ below Qc args s mc ms free) (entryFrame m args maxL)) : Met l y ws rm Pc Qc mc ms free := by
  refine MetFree.of_bodySF (code := cc) (maxLocals := maxL) (ret := ret) hy ?_ ?_
  · intro args s m h hn
    obtain ⟨m9, meth, c, hn9, h1, h2, h3, h4, -, h5, h6, -⟩ := Cond.codeWith_spec (atoms_spec (ws := ws) h _ (by rw [hw]; exact List.mem_cons_self))
    cases hn.symm.trans hn9
    exact ⟨meth, c, h1, h2, h3, h4, h5, h6⟩
  · intro p e s m args below meth c s₁ B hml hP _
    have hh0 : s₁.heap = s.heap := by rw [B.state]; rfl
    have ht : c.exceptionTable.toList = tableOf hh := vx_table (x := y) B (atoms_spec (ws := ws) B.pre _ (by rw [hw]; exact List.mem_cons_self))
    obtain ⟨t, a1, o, b1, b2, b3⟩ := body p e s m args below meth c s₁ B hml ht hP s₁ hh0 (Stand.of_body B)
    exact ⟨t, o, a1, b1, b2, ⟨b3.1, b3.2⟩⟩
abbrev wMetH {S : Type} (l : Launch) (y : MethodName) (b : ByteArray) (n : Nat) (ret : Option FieldType) (hh : List (Nat × Nat × Nat × Nat)) (d mc ms : Nat) (G : GG) (ws : va_W) (av : List Value) (sz : Nat) (val : S → Option Value) (ok : S → Prop) (W1 : S → va_W) : Prop := Met l y (Cond.codeWith y b n ret hh :: UW) (rmd d mc ms) (wPc G ws av sz) (wQ val ok W1 G.1 (va_A ws sz)) mc ms (va_A ws sz)
theorem w_startH {S : Type} {l : Launch} {y : MethodName} {b : ByteArray} {n : Nat} {ret : Option FieldType} {hh : List (Nat × Nat × Nat × Nat)} {d mc ms : Nat} {G : GG} {ws : va_W} {av : List Value} {sz : Nat} {val : S → Option Value} {ok : S → Prop} {W1 : S → va_W} (hy : plainFor y = true) (hlen : (lg_sl av).length ≤ n)
    (body : ∀ (p : Program) (e : Env) (s : State) (m : MethodId) (below : List Frame) (meth : Method) (c : Code) (A : Nat → Prop), p.tables.exec = Jvm.exec → c.code = b → meth.sig.returnType = ret → c.maxLocals = n → (∀ w ∈ UW, w.before av.toArray s = true) → s.vm.findClass y.cls = some m.cls → meth.locks = false → meth.name = y.name → c.exceptionTable.toList = tableOf hh → va_P G.1 vwCl ws s.heap → va_D A ws → (∀ q : Nat, s.heap.size ≤ q → A q) → KK G s → ST G A s → ∀ ls : Array Slot, lv_has ls n (lv_args 0 av) →
      W p l e (rmd d mc ms) s m av.toArray below meth c s.heap [] 0 0 (MQ below (wQ val ok W1 G.1 A) av.toArray s mc ms A) (F0 m 0 ls [])) : wMetH l y b n ret hh d mc ms G ws av sz val ok W1 := by
  refine Met_ofFW (cc := b) (maxL := n) (ret := ret) (hh := hh) hy rfl ?_
  intro p e s m args below meth c s₁ B hml hxt hv
  obtain ⟨rfl, hsz, hP, hK, hD, hST⟩ := hv
  have hts := atoms_spec (ws := Cond.codeWith y b n ret hh :: UW) B.pre
  rw [lg_entry_eq]
  subst hsz
  exact body p e s m below meth c (va_A ws s.heap.size) B.exec B.bytes B.returns hml (fun w h => hts w (List.mem_cons_of_mem _ h)) (findClass_of_methodNamed B.named) B.notSynchronized (name_of_methodNamed B.named B.method).1 hxt hP hD.self (fun q h => Or.inr h) hK hST _ (lv_entry av hlen)
theorem gSH {own : String} {idx n : Nat} {y : MethodName} {b : ByteArray} {ret : Option FieldType} {hh : List (Nat × Nat × Nat × Nat)} (h1 : Cond.methodLink own idx y ∈ UW) (h2 : Cond.static y ∈ UW) (h4 : Cond.initialized y.cls ∈ UW) (h5 : Cond.codeWith y b n ret hh ∈ UW) : GoodIn UW (va_wsS own idx y (Cond.codeWith y b n ret hh :: UW)) := by
  refine uw_in fun w hw => ?_
  rcases List.mem_append.mp hw with h | h
  · simp only [List.mem_cons, List.not_mem_nil, or_false] at h
    rcases h with rfl | rfl | rfl <;> assumption
  · exact (List.mem_cons.mp h).elim (fun e => e ▸ h5) id
abbrev zF : Nat → Int32 := fun _ => 0
abbrev doZ : DoV := (0, zF, zF, zF, zF)
abbrev exZ : ExV := (0, zF, zF, zF)
abbrev peZ : PeV := (0, zF, zF)
abbrev auZ : AuV := (0, zF, zF, zF, zF, zF, zF)
abbrev stZ : StV := (0, 29, doZ, exZ, peZ, auZ)
abbrev sbZ : SbV := (16, zF, 0, 0)
abbrev moZ : MoV := (upd zF (1 : Int32).toNatClampNeg 29, zF, zF, zF, 0, 0, -1, -1, 0, 0, zF, 0, zF, zF, 0, 0, 0)
section Rows76
variable {p : Program} {l : Launch} {e : Env} {R : Room} {s : State} {m : MethodId} {args : Array Value} {below : List Frame} {meth : Method} {c : Code} {H : Heap} {locs : List Loc} {cells slots : Nat} {Q : State → Prop} {cc : ByteArray} {pc : Nat} {ls : Array Slot}
theorem w_SH {S : Type} {own : String} {y : MethodName} {b : ByteArray} {mL nL n index d mc ms : Nat} {ret : Option FieldType} {hh : List (Nat × Nat × Nat × Nat)} {G : GG} {A : Nat → Prop} {bs cs rs : List va_W} {As rest st0 : List Value} {val : S → Option Value} {ok : S → Prop} {c1 : S → List va_W}
    (hM : wMetH l y b mL ret hh d mc ms G (fl cs) As H.size val ok (fun u => fl (c1 u))) (F : CallFix p m c cc nL s args UW own) (g : GoodIn UW (va_wsS own index y (Cond.codeWith y b mL ret hh :: UW))) (hd : y.cls ≠ "java/lang/invoke/MethodHandle" ∧ y.cls ≠ "java/lang/invoke/VarHandle" ∧ (parseMethodDescriptor y.desc).map (fun d => d.parameters.length) = some n)
    (hK : KK G s) (hST : ST G A s) (hS : va_S A s.heap H locs) (hP : va_P G.1 vwCl (fl bs) H) (hD : va_D A (fl bs)) (hA : ∀ q : Nat, s.heap.size ≤ q → A q) (isC isR : List Nat) (hC : isC.map (fun i => bs[i]?) = cs.map some) (hRs : isR.map (fun i => bs[i]?) = rs.map some) (hnd : va_nd (isC ++ isR) = true)
    (hR : d + 1 ≤ R.frames ∧ 8 + (mL + 11) + 40 * d ≤ R.locals) (hf : cells + mc ≤ R.cells ∧ slots + ms ≤ R.slots) (hn : As.length = n) (hsize : ls.size = nL) (hst : st0 = As.reverse ++ rest) (hcat : (rest.map fun v => v.category).sum ≤ 8) (hdg : decode cc pc = .ok (.invokestatic index, 3))
    (kk : ∀ (u : S) (H1 : Heap) (locs1 : List Loc), ok u → va_P G.1 vwCl (fl (c1 u ++ rs)) H1 → va_D A (fl (c1 u ++ rs)) → va_S A s.heap H1 locs1 → W p l e R s m args below meth c H1 locs1 (cells + mc) (slots + ms) Q (F0 m (pc + 3) ls ((val u).toList ++ rest))) : W p l e R s m args below meth c H locs cells slots Q (F0 m pc ls st0) := by
  have hPc := fl_sub isC hC hP
  have hDc := fl_subD isC (nd_app hnd).1 hC hD
  exact w_go (vx_runSW F hM (vx_cwSW n F.2.2.2.2 g rfl rfl rfl hd hR) ⟨wPc_blind, fun U hU hW => ⟨rfl, by rw [hU], by rw [hU]; exact hPc, va_K.moved hW.alike hK, hDc.weaken (fun _ _ _ _ => trivial), hST.go hS (fl_free hD hS hA isC hC) hW hU⟩⟩ rfl hn hsize hst (lv_room hcat) hdg hf) hS hP hD hA isC isR hC hRs hnd kk
/-- a call that changes what it says when it returns, and nothing when it throws -/
theorem xw_go {S : Type} {val : S → Option Value} {ok : S → Prop} {okx : String → Prop} {c1 : S → List va_W} {D : va_G} {A : Nat → Prop} {bs cs rs : List va_W} {mc ms : Nat} {rest st0 : List Value} {a : Array Value} {H0 : Heap} (hr : vx_Run p l e R s m args below meth c H locs cells slots mc ms (F0 m pc ls st0) rest (wQ val ok (fun u => fl (c1 u)) D (va_A (fl cs) H.size) a) (xR okx) (va_A (fl cs) H.size))
    (hS : va_S A H0 H locs) (hP : va_P D vwCl (fl bs) H) (hD : va_D A (fl bs)) (hA : ∀ q : Nat, H0.size ≤ q → A q) (isC isR : List Nat) (hC : isC.map (fun i => bs[i]?) = cs.map some) (hRs : isR.map (fun i => bs[i]?) = rs.map some) (hn : va_nd (isC ++ isR) = true)
    (kx : ∀ (E : String) (ce : Cell) (q9 : Addr) (H1 : Heap) (locs1 : List Loc), okx E → va_P D vwCl (fl bs) H1 → va_S A H0 H1 locs1 → H1[q9]? = some ce → ce.vm = .none → s.vm.findClass E = some ce.cls → vx_W p l e R s m args below meth c H1 locs1 (cells + mc) (slots + ms) Q (F0 m pc ls rest) q9)
    (kk : ∀ (u : S) (H1 : Heap) (locs1 : List Loc), ok u → va_P D vwCl (fl (c1 u ++ rs)) H1 → va_D A (fl (c1 u ++ rs)) → va_S A H0 H1 locs1 → W p l e R s m args below meth c H1 locs1 (cells + mc) (slots + ms) Q (F0 m (pc + 3) ls ((val u).toList ++ rest))) : W p l e R s m args below meth c H locs cells slots Q (F0 m pc ls st0) := by
  have hF := fl_free hD hS hA isC hC
  intro T hT X
  rcases hr T hT X with ⟨v', st₀, t, T', L, h0, X', hL, e1, e2, ⟨⟨u, hv, hok, hP1, hD1⟩, hFr⟩, st⟩ | ⟨q, st₀, t, T', L, E, ce, h0, X', hL, e1, e2, ⟨hok, hF1⟩, hce, hcv, hcl, st⟩
  · cases hv
    obtain ⟨k1, k2, k3⟩ := vx_keep h0 e1 hS (fun q _ h => hF q h) hF hL hFr
    rw [← e1] at hP1
    obtain ⟨j1, j2⟩ := fl_join hP hD isC isR hC hRs hn k2 hF hP1 hD1
    obtain ⟨t2, a1, b1⟩ := kk u T'.heap (locs ++ L) hok j1 j2 k3 T' rfl X'
    exact ⟨t2, st t2 a1, b1⟩
  · obtain ⟨k1, k2, k3⟩ := vx_keep h0 e1 hS (fun q _ h => h.elim) hF hL hF1
    obtain ⟨t2, a1, b1⟩ := kx E ce q T'.heap (locs ++ L) hok (hP.kept (fun k q hk => k2 q.1 ((hP k q hk).lt) id)) k3 (by rw [e1]; exact hce) hcv hcl T' rfl X'
    exact ⟨t2, st.trans a1, b1⟩
/-- a call that changes what it says, also when it throws -/
theorem xx_go {S : Type} {val : S → Option Value} {ok : S → Prop} {okx : String → S → Prop} {c1 : S → List va_W} {D : va_G} {A : Nat → Prop} {bs cs rs : List va_W} {mc ms : Nat} {rest st0 : List Value} {a : Array Value} {H0 : Heap} (hr : vx_Run p l e R s m args below meth c H locs cells slots mc ms (F0 m pc ls st0) rest (wQ val ok (fun u => fl (c1 u)) D (va_A (fl cs) H.size) a) (xW okx (fun u => fl (c1 u)) D (va_A (fl cs) H.size)) (va_A (fl cs) H.size))
    (hS : va_S A H0 H locs) (hP : va_P D vwCl (fl bs) H) (hD : va_D A (fl bs)) (hA : ∀ q : Nat, H0.size ≤ q → A q) (isC isR : List Nat) (hC : isC.map (fun i => bs[i]?) = cs.map some) (hRs : isR.map (fun i => bs[i]?) = rs.map some) (hn : va_nd (isC ++ isR) = true)
    (kx : ∀ (E : String) (ce : Cell) (q9 : Addr) (u : S) (H1 : Heap) (locs1 : List Loc), okx E u → va_P D vwCl (fl (c1 u ++ rs)) H1 → va_D A (fl (c1 u ++ rs)) → va_S A H0 H1 locs1 → H1[q9]? = some ce → ce.vm = .none → s.vm.findClass E = some ce.cls → vx_W p l e R s m args below meth c H1 locs1 (cells + mc) (slots + ms) Q (F0 m pc ls rest) q9)
    (kk : ∀ (u : S) (H1 : Heap) (locs1 : List Loc), ok u → va_P D vwCl (fl (c1 u ++ rs)) H1 → va_D A (fl (c1 u ++ rs)) → va_S A H0 H1 locs1 → W p l e R s m args below meth c H1 locs1 (cells + mc) (slots + ms) Q (F0 m (pc + 3) ls ((val u).toList ++ rest))) : W p l e R s m args below meth c H locs cells slots Q (F0 m pc ls st0) := by
  have hF := fl_free hD hS hA isC hC
  intro T hT X
  rcases hr T hT X with ⟨v', st₀, t, T', L, h0, X', hL, e1, e2, ⟨⟨u, hv, hok, hP1, hD1⟩, hFr⟩, st⟩ | ⟨q, st₀, t, T', L, E, ce, h0, X', hL, e1, e2, ⟨⟨u, hok, hP1, hD1⟩, hFr⟩, hce, hcv, hcl, st⟩
  · cases hv
    obtain ⟨k1, k2, k3⟩ := vx_keep h0 e1 hS (fun q _ h => hF q h) hF hL hFr
    rw [← e1] at hP1
    obtain ⟨j1, j2⟩ := fl_join hP hD isC isR hC hRs hn k2 hF hP1 hD1
    obtain ⟨t2, a1, b1⟩ := kk u T'.heap (locs ++ L) hok j1 j2 k3 T' rfl X'
    exact ⟨t2, st t2 a1, b1⟩
  · obtain ⟨k1, k2, k3⟩ := vx_keep h0 e1 hS (fun q _ h => hF q h) hF hL hFr
    rw [← e1] at hP1
    obtain ⟨j1, j2⟩ := fl_join hP hD isC isR hC hRs hn k2 hF hP1 hD1
    obtain ⟨t2, a1, b1⟩ := kx E ce q u T'.heap (locs ++ L) hok j1 j2 k3 (by rw [e1]; exact hce) hcv hcl T' rfl X'
    exact ⟨t2, st.trans a1, b1⟩
theorem xw_V {S : Type} {own C : String} {y : MethodName} {b : ByteArray} {mL nL n index d mc ms ci k0 : Nat} {ret : Option FieldType} {G : GG} {A : Nat → Prop} {bs cs rs : List va_W} {ba : Addr} {As rest st0 : List Value} {val : S → Option Value} {ok : S → Prop} {okx : String → Prop} {c1 : S → List va_W} {fs : List Value} {q : vw_C}
    (hM : xwMet l y b mL ret d mc ms G (fl cs) (.ref ba :: As) H.size val ok (fun u => fl (c1 u)) okx) (F : CallFix p m c cc nL s args UW own) (g : GoodIn UW (wsV own index C y (wsU y b mL ret))) (hd : y.cls = C ∧ y.cls ≠ "java/lang/invoke/MethodHandle" ∧ y.cls ≠ "java/lang/invoke/VarHandle" ∧ (parseMethodDescriptor y.desc).map (fun d => d.parameters.length) = some n)
    (hK : KK G s) (hST : ST G A s) (hS : va_S A s.heap H locs) (hP : va_P G.1 vwCl (fl bs) H) (hD : va_D A (fl bs)) (hA : ∀ q : Nat, s.heap.size ≤ q → A q) (isC isR : List Nat) (hC : isC.map (fun i => bs[i]?) = cs.map some) (hRs : isR.map (fun i => bs[i]?) = rs.map some) (hnd : va_nd (isC ++ isR) = true) (hrv : (fl cs)[k0]? = some (ba, .inr (ci, fs))) (hc : vwCl[ci]? = some q) (hqC : q.1 = C)
    (hR : d + 1 ≤ R.frames ∧ 8 + (mL + 11) + 40 * d ≤ R.locals) (hf : cells + mc ≤ R.cells ∧ slots + ms ≤ R.slots) (hn : As.length = n) (hsize : ls.size = nL) (hst : st0 = As.reverse ++ .ref ba :: rest) (hcat : (rest.map fun v => v.category).sum ≤ 8) (hdg : decode cc pc = .ok (.invokevirtual index, 3))
    (kx : ∀ (E : String) (ce : Cell) (q9 : Addr) (H1 : Heap) (locs1 : List Loc), okx E → va_P G.1 vwCl (fl bs) H1 → va_S A s.heap H1 locs1 → H1[q9]? = some ce → ce.vm = .none → s.vm.findClass E = some ce.cls → vx_W p l e R s m args below meth c H1 locs1 (cells + mc) (slots + ms) Q (F0 m pc ls rest) q9)
    (kk : ∀ (u : S) (H1 : Heap) (locs1 : List Loc), ok u → va_P G.1 vwCl (fl (c1 u ++ rs)) H1 → va_D A (fl (c1 u ++ rs)) → va_S A s.heap H1 locs1 → W p l e R s m args below meth c H1 locs1 (cells + mc) (slots + ms) Q (F0 m (pc + 3) ls ((val u).toList ++ rest))) : W p l e R s m args below meth c H locs cells slots Q (F0 m pc ls st0) := by
  have hPc := fl_sub isC hC hP
  have hDc := fl_subD isC (nd_app hnd).1 hC hD
  exact xw_go (vx_runV F hM (cwV n F.2.2.2.2 g rfl rfl rfl hd hR) ⟨wPc_blind, by subst hqC; exact va_recv hK hPc hc hrv, fun U hU hW => ⟨rfl, by rw [hU], by rw [hU]; exact hPc, va_K.moved hW.alike hK, hDc.weaken (fun _ _ _ _ => trivial), hST.go hS (fl_free hD hS hA isC hC) hW hU⟩⟩ rfl hn hsize hst (lv_room hcat) hdg hf) hS hP hD hA isC isR hC hRs hnd kx kk
theorem xx_V {S : Type} {own C : String} {y : MethodName} {b : ByteArray} {mL nL n index d mc ms ci k0 : Nat} {ret : Option FieldType} {G : GG} {A : Nat → Prop} {bs cs rs : List va_W} {ba : Addr} {As rest st0 : List Value} {val : S → Option Value} {ok : S → Prop} {okx : String → S → Prop} {c1 : S → List va_W} {fs : List Value} {q : vw_C}
    (hM : xxMet l y b mL ret d mc ms G (fl cs) (.ref ba :: As) H.size val ok (fun u => fl (c1 u)) okx) (F : CallFix p m c cc nL s args UW own) (g : GoodIn UW (wsV own index C y (wsU y b mL ret))) (hd : y.cls = C ∧ y.cls ≠ "java/lang/invoke/MethodHandle" ∧ y.cls ≠ "java/lang/invoke/VarHandle" ∧ (parseMethodDescriptor y.desc).map (fun d => d.parameters.length) = some n)
    (hK : KK G s) (hST : ST G A s) (hS : va_S A s.heap H locs) (hP : va_P G.1 vwCl (fl bs) H) (hD : va_D A (fl bs)) (hA : ∀ q : Nat, s.heap.size ≤ q → A q) (isC isR : List Nat) (hC : isC.map (fun i => bs[i]?) = cs.map some) (hRs : isR.map (fun i => bs[i]?) = rs.map some) (hnd : va_nd (isC ++ isR) = true) (hrv : (fl cs)[k0]? = some (ba, .inr (ci, fs))) (hc : vwCl[ci]? = some q) (hqC : q.1 = C)
    (hR : d + 1 ≤ R.frames ∧ 8 + (mL + 11) + 40 * d ≤ R.locals) (hf : cells + mc ≤ R.cells ∧ slots + ms ≤ R.slots) (hn : As.length = n) (hsize : ls.size = nL) (hst : st0 = As.reverse ++ .ref ba :: rest) (hcat : (rest.map fun v => v.category).sum ≤ 8) (hdg : decode cc pc = .ok (.invokevirtual index, 3))
    (kx : ∀ (E : String) (ce : Cell) (q9 : Addr) (u : S) (H1 : Heap) (locs1 : List Loc), okx E u → va_P G.1 vwCl (fl (c1 u ++ rs)) H1 → va_D A (fl (c1 u ++ rs)) → va_S A s.heap H1 locs1 → H1[q9]? = some ce → ce.vm = .none → s.vm.findClass E = some ce.cls → vx_W p l e R s m args below meth c H1 locs1 (cells + mc) (slots + ms) Q (F0 m pc ls rest) q9)
    (kk : ∀ (u : S) (H1 : Heap) (locs1 : List Loc), ok u → va_P G.1 vwCl (fl (c1 u ++ rs)) H1 → va_D A (fl (c1 u ++ rs)) → va_S A s.heap H1 locs1 → W p l e R s m args below meth c H1 locs1 (cells + mc) (slots + ms) Q (F0 m (pc + 3) ls ((val u).toList ++ rest))) : W p l e R s m args below meth c H locs cells slots Q (F0 m pc ls st0) := by
  have hPc := fl_sub isC hC hP
  have hDc := fl_subD isC (nd_app hnd).1 hC hD
  exact xx_go (vx_runV F hM (cwV n F.2.2.2.2 g rfl rfl rfl hd hR) ⟨wPc_blind, by subst hqC; exact va_recv hK hPc hc hrv, fun U hU hW => ⟨rfl, by rw [hU], by rw [hU]; exact hPc, va_K.moved hW.alike hK, hDc.weaken (fun _ _ _ _ => trivial), hST.go hS (fl_free hD hS hA isC hC) hW hU⟩⟩ rfl hn hsize hst (lv_room hcat) hdg hf) hS hP hD hA isC isR hC hRs hnd kx kk
theorem w_newO {G : GG} {A : Nat → Prop} {bs : List va_W} {rest : List Value} (hx : p.tables.exec = Jvm.exec) (hb : c.code = cc) {own C : String} {T : u_T} {N ci index : Nat} (hts : ∀ w ∈ UW, w.before args s = true) (hin : ∀ w ∈ u_ws C T N, w ∈ UW) (ty : Nat → FieldType) (hty : ∀ k, k < N → parseFieldDescriptor (T k).2.2.1 = some (ty k)) (hown : s.vm.findClass own = some m.cls) (hcl : (Cond.classLink own index C).before args s = true) (hinst : (Cond.instantiable C N).before args s = true) (hini : (Cond.initialized C).before args s = true)
    (hK : KK G s) (hP : va_P G.1 vwCl (fl bs) H) (hD : va_D A (fl bs)) (hS : va_S A s.heap H locs) (hA : ∀ q : Nat, s.heap.size ≤ q → A q) (hc : vwCl[ci]? = some (C, T, N)) {fs : List Value} (hfs : ∀ j, j < N → defaultValue (ty j) = vp_V fs j) (hcells : cells + 1 ≤ R.cells) (hslots : slots + N ≤ R.slots) (hdg : decode cc pc = .ok (.new index, 3))
    (kk : ∀ (q : Nat) (H1 : Heap), va_P G.1 vwCl (fl (bs ++ [[(q, .inr (ci, fs))]])) H1 → va_D A (fl (bs ++ [[(q, .inr (ci, fs))]])) → va_S A s.heap H1 locs →
      W p l e R s m args below meth c H1 locs (cells + 1) (slots + N) Q (F0 m (pc + 3) ls (.ref q :: rest))) : W p l e R s m args below meth c H locs cells slots Q (F0 m pc ls rest) := by
  refine va_new hx hb hts hin ty hty hown hcl hinst hini hK hP hD hS hA hc hfs hcells hslots hdg (fun q H1 hP1 hD1 hS1 => ?_)
  have e3 : fl (bs ++ [[(q, .inr (ci, fs))]]) = fl bs ++ [(q, .inr (ci, fs))] := by simp [fl]
  exact kk q H1 (by rw [e3]; exact hP1) (by rw [e3]; exact hD1) hS1
theorem w_newI {G : GG} {A : Nat → Prop} {bs : List va_W} {rest : List Value} (hx : p.tables.exec = Jvm.exec) (hb : c.code = cc) (harr : (Cond.arrayClass .int).before args s = true) (hK : KK G s) (hP : va_P G.1 vwCl (fl bs) H) (hD : va_D A (fl bs)) (hS : va_S A s.heap H locs) (hA : ∀ q : Nat, s.heap.size ≤ q → A q)
    {n : Int32} {N : Nat} (hn : ¬ n < 0) (hN : n.toNatClampNeg = N) (hby : N * 4 ≤ 536870912) (hcells : cells + 1 ≤ R.cells) (hslots : slots + N ≤ R.slots) (hdg : decode cc pc = .ok (.newarray .int, 2))
    (kk : ∀ (q : Nat) (H1 : Heap), va_P G.1 vwCl (fl (bs ++ [[(q, .inl (G.2.1 0, N, .inl (fun _ => 0)))]])) H1 → va_D A (fl (bs ++ [[(q, .inl (G.2.1 0, N, .inl (fun _ => 0)))]])) → va_S A s.heap H1 locs →
      W p l e R s m args below meth c H1 locs (cells + 1) (slots + N) Q (F0 m (pc + 2) ls (.ref q :: rest))) : W p l e R s m args below meth c H locs cells slots Q (F0 m pc ls (.int n :: rest)) := by
  refine va_newa (atype := .int) (ty := .int) (a0 := (N, .inl (fun _ => 0))) hx hb harr rfl hK hP hD hS hA (fun cA => rfl) hn hN hby hcells hslots hdg (fun q cA H1 hK1 hP1 hD1 hS1 => ?_)
  have e1 := (hK.2 0 _ rfl).2
  have e2 := (hK1.2 3 _ rfl).2
  have e : cA = G.2.1 0 := Option.some.inj (e2.symm.trans e1)
  subst e
  have e3 : fl (bs ++ [[(q, .inl (G.2.1 0, N, .inl (fun _ => 0)))]]) = fl bs ++ [(q, .inl (G.2.1 0, N, .inl (fun _ => 0)))] := by simp [fl]
  exact kk q H1 (by rw [e3]; exact hP1) (by rw [e3]; exact hD1) hS1
/-- a row of references to States, all empty -/
theorem w_newR {G : GG} {A : Nat → Prop} {bs : List va_W} {rest : List Value} {own : String} {index : Nat} (hx : p.tables.exec = Jvm.exec) (hb : c.code = cc) (hown : s.vm.findClass own = some m.cls) (hcl : (Cond.classLink own index RX8).before args s = true) (hov : va_AO RX8 s) (hK : KK G s) (hP : va_P G.1 vwCl (fl bs) H) (hD : va_D A (fl bs)) (hS : va_S A s.heap H locs) (hA : ∀ q : Nat, s.heap.size ≤ q → A q)
    {n : Int32} {N : Nat} (hn : ¬ n < 0) (hN : n.toNatClampNeg = N) (hby : N * 4 ≤ 536870912) (hcells : cells + 1 ≤ R.cells) (hslots : slots + N ≤ R.slots) (hdg : decode cc pc = .ok (.anewarray index, 3))
    (kk : ∀ (q : Nat) (H1 : Heap), va_P G.1 vwCl (fl (bs ++ [[(q, .inl (G.2.1 1, N, .inr (.inr (.inr (.inr (fun _ => none))))))]])) H1 → va_D A (fl (bs ++ [[(q, .inl (G.2.1 1, N, .inr (.inr (.inr (.inr (fun _ => none))))))]])) → va_S A s.heap H1 locs →
      W p l e R s m args below meth c H1 locs (cells + 1) (slots + N) Q (F0 m (pc + 3) ls (.ref q :: rest))) : W p l e R s m args below meth c H locs cells slots Q (F0 m pc ls (.int n :: rest)) := by
  refine va_newq hx hb hown hcl hov hK hP hD hS hA hn hN hby hcells hslots hdg (fun q cA H1 hK1 hP1 hD1 hS1 => ?_)
  obtain ⟨kA, comp, -, -, -, e1⟩ := (hK.2 1 _ rfl).2
  obtain ⟨kA', comp', -, -, -, e2⟩ := (hK1.2 3 _ rfl).2
  have e : cA = G.2.1 1 := Option.some.inj (e2.symm.trans e1)
  subst e
  have e3 : fl (bs ++ [[(q, .inl (G.2.1 1, N, .inr (.inr (.inr (.inr (fun _ => none))))))]]) = fl bs ++ [(q, .inl (G.2.1 1, N, .inr (.inr (.inr (.inr (fun _ => none))))))] := by simp [fl]
  exact kk q H1 (by rw [e3]; exact hP1) (by rw [e3]; exact hD1) hS1
end Rows76
/-- a row of references, by what stands in its places -/
theorem rows_P {D : va_G} {cl : List vw_C} {H : Heap} {rh n : Nat} {cA : ClassId} {f g : Nat → Option Nat} {ws : va_W} (h : ∀ j, j < n → f j = g j) (hP : va_P D cl ((rh, .inl (cA, n, .inr (.inr (.inr (.inr f))))) :: ws) H) : va_P D cl ((rh, .inl (cA, n, .inr (.inr (.inr (.inr g))))) :: ws) H := by
  rw [vP_mem] at hP ⊢
  intro q hq
  rcases List.mem_cons.mp hq with e | e
  · subst e
    have h1 := hP _ List.mem_cons_self
    have h2 : H[rh]? = some (arrV cA n (fun j => va_rf (f j))) := h1
    have h3 : arrV cA n (fun j => va_rf (f j)) = arrV cA n (fun j => va_rf (g j)) := by
      unfold arrV
      have h4 : (Array.ofFn (n := n) fun j => va_rf (f j.val)) = Array.ofFn (n := n) fun j => va_rf (g j.val) := congrArg Array.ofFn (funext fun j => by rw [h j.val j.isLt])
      rw [h4]
    show H[rh]? = some (arrV cA n (fun j => va_rf (g j)))
    rw [h2, h3]
  · exact hP q (List.mem_cons_of_mem _ e)
theorem rows_D {A : Nat → Prop} {rh : Nat} {a b : va_E} {ws : va_W} (hD : va_D A ((rh, a) :: ws)) : va_D A ((rh, b) :: ws) := by
  rw [vD_iff] at hD ⊢
  obtain ⟨h1, h2⟩ := hD
  refine ⟨?_, fun q hq => ?_⟩
  · obtain ⟨h3, h4⟩ := List.pairwise_cons.mp h1
    exact List.pairwise_cons.mpr ⟨fun q hq => h3 q hq, h4⟩
  · rcases List.mem_cons.mp hq with e | e
    · subst e; exact h2 (rh, a) List.mem_cons_self
    · exact h2 q (List.mem_cons_of_mem _ e)
