theorem Met_ofF {l : Launch} {y : MethodName} {ws ws' : List Cond} {rm : Room} {Pc : Array Value → State → Prop} {Qc : Array Value → State → Outcome → State → Prop} {mc ms : Nat} {free : Addr → Prop} {cc : ByteArray} {maxL : Nat} {ret : Option FieldType}
    (hy : plainFor y = true) (hw : ws = Cond.code y cc maxL ret :: ws')
    (body : ∀ p e s m args below meth c s₁, BodyLoose p l y (headSpec ws rm) cc maxL ret e s m args below meth c s₁ → c.maxLocals = maxL → Pc args s →
      W p l e (headSpec ws rm).room s m args below meth c s.heap [] 0 0 (MQ below Qc args s mc ms free) (entryFrame m args maxL)) : Met l y ws rm Pc Qc mc ms free := by
  refine MetFree.of_bodySF (code := cc) (maxLocals := maxL) (ret := ret) hy ?_ ?_
  · intro args s m h hn
    obtain ⟨meth, c, h1, h2, h3, h4, h5, h6, -, -⟩ := Cond.code_spec hn (atoms_spec (ws := ws) h _ (by rw [hw]; exact List.mem_cons_self))
    exact ⟨meth, c, h1, h2, h3, h4, h5, h6⟩
  · intro p e s m args below meth c s₁ B hml hP _
    have hh0 : s₁.heap = s.heap := by rw [B.state]; rfl
    obtain ⟨t, a1, o, b1, b2, b3⟩ := body p e s m args below meth c s₁ B hml hP s₁ hh0 (Stand.of_body B)
    exact ⟨t, o, a1, b1, b2, ⟨b3.1, b3.2⟩⟩
/-! ===== a body's start ===== -/
theorem r_start {l : Launch} {y : MethodName} {b : ByteArray} {n : Nat} {ret : Option FieldType} {d : Nat} {G : GG} {ws : va_W} {av : List Value} {v : Option Value} {ex : Prop} (hy : plainFor y = true) (hlen : (lg_sl av).length ≤ n)
    (body : ∀ (p : Program) (e : Env) (s : State) (m : MethodId) (below : List Frame) (meth : Method) (c : Code), p.tables.exec = Jvm.exec → c.code = b → meth.sig.returnType = ret → c.maxLocals = n → (∀ w ∈ UW, w.before av.toArray s = true) → s.vm.findClass y.cls = some m.cls → meth.locks = false → va_P G.1 vwCl ws s.heap → KK G s → ST G (fun _ => False) s → ∀ ls : Array Slot, lv_has ls n (lv_args 0 av) →
      W p l e (rmd d 0 0) s m av.toArray below meth c s.heap [] 0 0 (MQ below (rQ v ex) av.toArray s 0 0 (fun _ => False)) (F0 m 0 ls [])) : rMet l y b n ret d G ws av v ex := by
  refine Met_ofF (cc := b) (maxL := n) (ret := ret) hy rfl ?_
  intro p e s m args below meth c s₁ B hml hv
  obtain ⟨rfl, hP, hK, hST⟩ := hv
  have hts := atoms_spec (ws := wsU y b n ret) B.pre
  rw [lg_entry_eq]
  exact body p e s m below meth c B.exec B.bytes B.returns hml (fun w h => hts w (List.mem_cons_of_mem _ h)) (findClass_of_methodNamed B.named) B.notSynchronized hP hK hST _ (lv_entry av hlen)
theorem w_start {S : Type} {l : Launch} {y : MethodName} {b : ByteArray} {n : Nat} {ret : Option FieldType} {d mc ms : Nat} {G : GG} {ws : va_W} {av : List Value} {sz : Nat} {val : S → Option Value} {ok : S → Prop} {W1 : S → va_W} (hy : plainFor y = true) (hlen : (lg_sl av).length ≤ n)
    (body : ∀ (p : Program) (e : Env) (s : State) (m : MethodId) (below : List Frame) (meth : Method) (c : Code) (A : Nat → Prop), p.tables.exec = Jvm.exec → c.code = b → meth.sig.returnType = ret → c.maxLocals = n → (∀ w ∈ UW, w.before av.toArray s = true) → s.vm.findClass y.cls = some m.cls → meth.locks = false → meth.name = y.name → va_P G.1 vwCl ws s.heap → va_D A ws → (∀ q : Nat, s.heap.size ≤ q → A q) → KK G s → ST G A s → ∀ ls : Array Slot, lv_has ls n (lv_args 0 av) →
      W p l e (rmd d mc ms) s m av.toArray below meth c s.heap [] 0 0 (MQ below (wQ val ok W1 G.1 A) av.toArray s mc ms A) (F0 m 0 ls [])) : wMet l y b n ret d mc ms G ws av sz val ok W1 := by
  refine Met_ofF (cc := b) (maxL := n) (ret := ret) hy rfl ?_
  intro p e s m args below meth c s₁ B hml hv
  obtain ⟨rfl, hsz, hP, hK, hD, hST⟩ := hv
  have hts := atoms_spec (ws := wsU y b n ret) B.pre
  rw [lg_entry_eq]
  subst hsz
  exact body p e s m below meth c (va_A ws s.heap.size) B.exec B.bytes B.returns hml (fun w h => hts w (List.mem_cons_of_mem _ h)) (findClass_of_methodNamed B.named) B.notSynchronized (name_of_methodNamed B.named B.method).1 hP hD.self (fun q h => Or.inr h) hK hST _ (lv_entry av hlen)
theorem xr_start {l : Launch} {y : MethodName} {b : ByteArray} {n : Nat} {ret : Option FieldType} {d mc ms : Nat} {G : GG} {ws : va_W} {av : List Value} {v : Option Value} {ex : Prop} {okx : String → Prop} (hy : plainName y.cls = true) (hlen : (lg_sl av).length ≤ n)
    (body : ∀ (p : Program) (e : Env) (s : State) (m : MethodId) (below : List Frame) (meth : Method) (c : Code), p.tables.exec = Jvm.exec → c.code = b → meth.sig.returnType = ret → c.maxLocals = n → (∀ w ∈ UW, w.before av.toArray s = true) → s.vm.findClass y.cls = some m.cls → meth.locks = false → (∀ x ∈ c.exceptionTable.toList, False) → va_P G.1 vwCl ws s.heap → KK G s → ST G (fun _ => False) s → ∀ ls : Array Slot, lv_has ls n (lv_args 0 av) →
      W p l e (rmd d mc ms) s m av.toArray below meth c s.heap [] 0 0 (vx_MQ below (rQ v ex) (xR okx) av.toArray s mc ms (fun _ => False)) (F0 m 0 ls [])) : xrMet l y b n ret d mc ms G ws av v ex okx := by
  refine vx_ofW (cc := b) (maxL := n) (ret := ret) hy rfl ?_
  intro p e s m args below meth c s₁ B hml hx hv
  obtain ⟨rfl, hP, hK, hST⟩ := hv
  have hts := atoms_spec (ws := wsU y b n ret) B.pre
  rw [lg_entry_eq]
  exact body p e s m below meth c B.exec B.bytes B.returns hml (fun w h => hts w (List.mem_cons_of_mem _ h)) (findClass_of_methodNamed B.named) B.notSynchronized hx hP hK hST _ (lv_entry av hlen)
theorem xw_start {S : Type} {l : Launch} {y : MethodName} {b : ByteArray} {n : Nat} {ret : Option FieldType} {d mc ms : Nat} {G : GG} {ws : va_W} {av : List Value} {sz : Nat} {val : S → Option Value} {ok : S → Prop} {W1 : S → va_W} {okx : String → Prop} (hy : plainName y.cls = true) (hlen : (lg_sl av).length ≤ n)
    (body : ∀ (p : Program) (e : Env) (s : State) (m : MethodId) (below : List Frame) (meth : Method) (c : Code) (A : Nat → Prop), p.tables.exec = Jvm.exec → c.code = b → meth.sig.returnType = ret → c.maxLocals = n → (∀ w ∈ UW, w.before av.toArray s = true) → s.vm.findClass y.cls = some m.cls → meth.locks = false → (∀ x ∈ c.exceptionTable.toList, False) → va_P G.1 vwCl ws s.heap → va_D A ws → (∀ q : Nat, s.heap.size ≤ q → A q) → KK G s → ST G A s → ∀ ls : Array Slot, lv_has ls n (lv_args 0 av) →
      W p l e (rmd d mc ms) s m av.toArray below meth c s.heap [] 0 0 (vx_MQ below (wQ val ok W1 G.1 A) (xR okx) av.toArray s mc ms A) (F0 m 0 ls [])) : xwMet l y b n ret d mc ms G ws av sz val ok W1 okx := by
  refine vx_ofW (cc := b) (maxL := n) (ret := ret) hy rfl ?_
  intro p e s m args below meth c s₁ B hml hx hv
  obtain ⟨rfl, hsz, hP, hK, hD, hST⟩ := hv
  have hts := atoms_spec (ws := wsU y b n ret) B.pre
  rw [lg_entry_eq]
  subst hsz
  exact body p e s m below meth c (va_A ws s.heap.size) B.exec B.bytes B.returns hml (fun w h => hts w (List.mem_cons_of_mem _ h)) (findClass_of_methodNamed B.named) B.notSynchronized hx hP hD.self (fun q h => Or.inr h) hK hST _ (lv_entry av hlen)
section Rows4
variable {p : Program} {l : Launch} {e : Env} {R : Room} {s : State} {m : MethodId} {args : Array Value} {below : List Frame} {meth : Method} {c : Code} {H : Heap} {locs : List Loc} {cells slots : Nat} {Q : State → Prop} {cc : ByteArray} {pc : Nat} {ls : Array Slot}
/-! ===== a body's end ===== -/
theorem r_ret {v : Option Value} {ex : Prop} {x : Int32} {ty : FieldType} (hx : p.tables.exec = Jvm.exec) (hb : c.code = cc) (hr : meth.sig.returnType = some ty) (hlk : meth.locks = false) (hn : narrow ty (.int x) = .int x) (hv : v = some (.int x)) (hex : ex) (hdg : decode cc pc = .ok (.ireturn, 1)) :
    W p l e R s m args below meth c s.heap [] 0 0 (MQ below (rQ v ex) args s 0 0 (fun _ => False)) (F0 m pc ls [.int x]) := by
  subst hv
  exact W.zret hx hb hr hn (fun t ht hW => ⟨rfl, hex, ht⟩) (fun q hq => absurd hq List.not_mem_nil) hdg hlk
theorem r_retA {v : Option Value} {ex : Prop} {x : Value} {ty : FieldType} (hx : p.tables.exec = Jvm.exec) (hb : c.code = cc) (hr : meth.sig.returnType = some ty) (hlk : meth.locks = false) (ht : (∃ n, ty = .object n) ∨ ∃ t, ty = .array t) (ha : x = .null ∨ ∃ a, x = .ref a) (hv : v = some x) (hex : ex) (hdg : decode cc pc = .ok (.areturn, 1)) :
    W p l e R s m args below meth c s.heap [] 0 0 (MQ below (rQ v ex) args s 0 0 (fun _ => False)) (F0 m pc ls [x]) := by
  subst hv
  exact W.aret hx hb hr ht ha (fun t ht hW => ⟨rfl, hex, ht⟩) (fun q hq => absurd hq List.not_mem_nil) hdg hlk
theorem r_retV {ex : Prop} (hx : p.tables.exec = Jvm.exec) (hb : c.code = cc) (hr : meth.sig.returnType = none) (hlk : meth.locks = false) (hex : ex) (hdg : decode cc pc = .ok (.return_, 1)) :
    W p l e R s m args below meth c s.heap [] 0 0 (MQ below (rQ none ex) args s 0 0 (fun _ => False)) (F0 m pc ls []) :=
  W.vret hx hb hr (fun t ht hW => ⟨rfl, hex, ht⟩) (fun q hq => absurd hq List.not_mem_nil) hdg hlk
theorem w_ret {S : Type} {val : S → Option Value} {ok : S → Prop} {W1 : S → va_W} {D : va_G} {A : Nat → Prop} {mc ms : Nat} {x : Int32} {ty : FieldType} (u : S) (hx : p.tables.exec = Jvm.exec) (hb : c.code = cc) (hr : meth.sig.returnType = some ty) (hlk : meth.locks = false) (hn : narrow ty (.int x) = .int x) (hS : va_S A s.heap H locs) (hv : val u = some (.int x)) (hok : ok u) (hP : va_P D vwCl (W1 u) H) (hD : va_D A (W1 u)) (hc : cells ≤ mc) (hs : slots ≤ ms) (hdg : decode cc pc = .ok (.ireturn, 1)) :
    W p l e R s m args below meth c H locs cells slots (MQ below (wQ val ok W1 D A) args s mc ms A) (F0 m pc ls [.int x]) := by
  refine W.widen hc hs ?_
  exact W.zret hx hb hr hn (fun t ht hW => ⟨⟨u, by rw [hv], hok, by rw [ht]; exact hP, hD⟩, hS.F ht⟩) hS.2.2 hdg hlk
theorem w_retA {S : Type} {val : S → Option Value} {ok : S → Prop} {W1 : S → va_W} {D : va_G} {A : Nat → Prop} {mc ms : Nat} {x : Value} {ty : FieldType} (u : S) (hx : p.tables.exec = Jvm.exec) (hb : c.code = cc) (hr : meth.sig.returnType = some ty) (hlk : meth.locks = false) (ht : (∃ n, ty = .object n) ∨ ∃ t, ty = .array t) (ha : x = .null ∨ ∃ a, x = .ref a) (hS : va_S A s.heap H locs) (hv : val u = some x) (hok : ok u) (hP : va_P D vwCl (W1 u) H) (hD : va_D A (W1 u)) (hc : cells ≤ mc) (hs : slots ≤ ms) (hdg : decode cc pc = .ok (.areturn, 1)) :
    W p l e R s m args below meth c H locs cells slots (MQ below (wQ val ok W1 D A) args s mc ms A) (F0 m pc ls [x]) := by
  refine W.widen hc hs ?_
  exact W.aret hx hb hr ht ha (fun t ht hW => ⟨⟨u, by rw [hv], hok, by rw [ht]; exact hP, hD⟩, hS.F ht⟩) hS.2.2 hdg hlk
theorem w_retV {S : Type} {val : S → Option Value} {ok : S → Prop} {W1 : S → va_W} {D : va_G} {A : Nat → Prop} {mc ms : Nat} (u : S) (hx : p.tables.exec = Jvm.exec) (hb : c.code = cc) (hr : meth.sig.returnType = none) (hlk : meth.locks = false) (hS : va_S A s.heap H locs) (hv : val u = none) (hok : ok u) (hP : va_P D vwCl (W1 u) H) (hD : va_D A (W1 u)) (hc : cells ≤ mc) (hs : slots ≤ ms) (hdg : decode cc pc = .ok (.return_, 1)) :
    W p l e R s m args below meth c H locs cells slots (MQ below (wQ val ok W1 D A) args s mc ms A) (F0 m pc ls []) := by
  refine W.widen hc hs ?_
  exact W.vret hx hb hr (fun t ht hW => ⟨⟨u, by rw [hv], hok, by rw [ht]; exact hP, hD⟩, hS.F ht⟩) hS.2.2 hdg hlk
/-- a plain end in a body that may throw -/
theorem x_ret {Qc : Array Value → State → Outcome → State → Prop} {XC : String → State → State → Prop} {mc ms : Nat} {free : Addr → Prop} {g : JFrame} (hc : cells ≤ mc) (hs : slots ≤ ms) (k : W p l e R s m args below meth c H locs mc ms (MQ below Qc args s mc ms free) g) : W p l e R s m args below meth c H locs cells slots (vx_MQ below Qc XC args s mc ms free) g := W.widen hc hs (vx_ret k)
theorem x_retI {XC : String → State → State → Prop} {v : Option Value} {ex : Prop} {x : Int32} {ty : FieldType} {mc ms : Nat} (hx : p.tables.exec = Jvm.exec) (hb : c.code = cc) (hr : meth.sig.returnType = some ty) (hlk : meth.locks = false) (hn : narrow ty (.int x) = .int x) (hv : v = some (.int x)) (hex : ex) (hc : cells ≤ mc) (hs : slots ≤ ms) (hdg : decode cc pc = .ok (.ireturn, 1)) :
    W p l e R s m args below meth c s.heap [] cells slots (vx_MQ below (rQ v ex) XC args s mc ms (fun _ => False)) (F0 m pc ls [.int x]) := by
  subst hv
  exact x_ret hc hs (W.zret hx hb hr hn (fun t ht hW => ⟨rfl, hex, ht⟩) (fun q hq => absurd hq List.not_mem_nil) hdg hlk)
theorem x_retV {XC : String → State → State → Prop} {ex : Prop} {mc ms : Nat} (hx : p.tables.exec = Jvm.exec) (hb : c.code = cc) (hr : meth.sig.returnType = none) (hlk : meth.locks = false) (hex : ex) (hc : cells ≤ mc) (hs : slots ≤ ms) (hdg : decode cc pc = .ok (.return_, 1)) :
    W p l e R s m args below meth c s.heap [] cells slots (vx_MQ below (rQ none ex) XC args s mc ms (fun _ => False)) (F0 m pc ls []) :=
  x_ret hc hs (W.vret hx hb hr (fun t ht hW => ⟨rfl, hex, ht⟩) (fun q hq => absurd hq List.not_mem_nil) hdg hlk)
/-! ===== calls that leave the heap as it is ===== -/
theorem r_go {v : Option Value} {ex : Prop} {mc ms : Nat} {rest st0 st1 : List Value} {a : Array Value} (hr : va_Run p l e R s m args below meth c H locs cells slots mc ms (F0 m pc ls st0) rest (rQ v ex a) (fun _ => False)) (h1 : v.toList ++ rest = st1)
    (kk : ex → W p l e R s m args below meth c H locs (cells + mc) (slots + ms) Q (F0 m (pc + 3) ls st1)) : W p l e R s m args below meth c H locs cells slots Q (F0 m pc ls st0) := by
  intro T hT X
  obtain ⟨v', st₀, t, T', L, h0, X', hL, e1, e2, ⟨hv, hex, hh⟩, st⟩ := hr T hT X
  cases hv
  have hL0 : L = [] := by
    cases L with
    | nil => rfl
    | cons a r => exact absurd (hL a List.mem_cons_self) id
  subst hL0
  rw [List.append_nil] at X'
  subst h1
  obtain ⟨t2, a1, b1⟩ := kk hex T' (by rw [e1, hh, h0]) X'
  exact ⟨t2, st t2 a1, b1⟩
theorem r_V {own C : String} {y : MethodName} {b : ByteArray} {mL nL n index d ci k0 : Nat} {ret : Option FieldType} {G : GG} {A : Nat → Prop} {ws wc : va_W} {ba : Addr} {As rest st0 st1 : List Value} {v : Option Value} {ex : Prop} {fs : List Value} {q : vw_C}
    (hM : rMet l y b mL ret d G wc (.ref ba :: As) v ex) (S : CallFix p m c cc nL s args UW own) (g : GoodIn UW (wsV own index C y (wsU y b mL ret))) (hd : y.cls = C ∧ y.cls ≠ "java/lang/invoke/MethodHandle" ∧ y.cls ≠ "java/lang/invoke/VarHandle" ∧ (parseMethodDescriptor y.desc).map (fun d => d.parameters.length) = some n)
    (hK : KK G s) (hST : ST G A s) (hS : va_S A s.heap H locs) (hP : va_P G.1 vwCl ws H) (isC : List Nat) (hC : isC.filterMap (fun i => ws[i]?) = wc) (hrv : wc[k0]? = some (ba, .inr (ci, fs))) (hc : vwCl[ci]? = some q) (hqC : q.1 = C)
    (hR : d + 1 ≤ R.frames ∧ 8 + (mL + 11) + 40 * d ≤ R.locals) (hf : cells ≤ R.cells ∧ slots ≤ R.slots) (hn : As.length = n) (hsize : ls.size = nL) (hst : st0 = As.reverse ++ .ref ba :: rest) (hcat : (rest.map fun v => v.category).sum ≤ 8) (hdg : decode cc pc = .ok (.invokevirtual index, 3)) (h1 : v.toList ++ rest = st1)
    (kk : ex → W p l e R s m args below meth c H locs cells slots Q (F0 m (pc + 3) ls st1)) : W p l e R s m args below meth c H locs cells slots Q (F0 m pc ls st0) := by
  have hPc := hP.sub isC hC
  exact r_go (va_runV S hM (cwV n S.2.2.2.2 g rfl rfl rfl hd hR) ⟨rPc_blind, by subst hqC; exact va_recv hK hPc hc hrv, fun U hU hW => ⟨rfl, by rw [hU]; exact hPc, va_K.moved hW.alike hK, hST.go hS (fun _ h => h.elim) hW hU⟩⟩ rfl hn hsize hst (lv_room hcat) hdg hf) h1 kk
theorem r_S {own : String} {y : MethodName} {b : ByteArray} {mL nL n index d : Nat} {ret : Option FieldType} {G : GG} {A : Nat → Prop} {ws wc : va_W} {As rest st0 st1 : List Value} {v : Option Value} {ex : Prop}
    (hM : rMet l y b mL ret d G wc As v ex) (S : CallFix p m c cc nL s args UW own) (g : GoodIn UW (va_wsS own index y (wsU y b mL ret))) (hd : y.cls ≠ "java/lang/invoke/MethodHandle" ∧ y.cls ≠ "java/lang/invoke/VarHandle" ∧ (parseMethodDescriptor y.desc).map (fun d => d.parameters.length) = some n)
    (hK : KK G s) (hST : ST G A s) (hS : va_S A s.heap H locs) (hP : va_P G.1 vwCl ws H) (isC : List Nat) (hC : isC.filterMap (fun i => ws[i]?) = wc)
    (hR : d + 1 ≤ R.frames ∧ 8 + (mL + 11) + 40 * d ≤ R.locals) (hf : cells ≤ R.cells ∧ slots ≤ R.slots) (hn : As.length = n) (hsize : ls.size = nL) (hst : st0 = As.reverse ++ rest) (hcat : (rest.map fun v => v.category).sum ≤ 8) (hdg : decode cc pc = .ok (.invokestatic index, 3)) (h1 : v.toList ++ rest = st1)
    (kk : ex → W p l e R s m args below meth c H locs cells slots Q (F0 m (pc + 3) ls st1)) : W p l e R s m args below meth c H locs cells slots Q (F0 m pc ls st0) := by
  have hPc := hP.sub isC hC
  exact r_go (va_runS S hM (va_cwS n S.2.2.2.2 g rfl rfl rfl hd hR) ⟨rPc_blind, fun U hU hW => ⟨rfl, by rw [hU]; exact hPc, va_K.moved hW.alike hK, hST.go hS (fun _ h => h.elim) hW hU⟩⟩ rfl hn hsize hst (lv_room hcat) hdg hf) h1 kk
/-! ===== calls that change blocks ===== -/
theorem w_go {S : Type} {val : S → Option Value} {ok : S → Prop} {c1 : S → List va_W} {D : va_G} {A : Nat → Prop} {bs cs rs : List va_W} {mc ms : Nat} {rest st0 : List Value} {a : Array Value} {H0 : Heap} (hr : va_Run p l e R s m args below meth c H locs cells slots mc ms (F0 m pc ls st0) rest (wQ val ok (fun u => fl (c1 u)) D (va_A (fl cs) H.size) a) (va_A (fl cs) H.size))
    (hS : va_S A H0 H locs) (hP : va_P D vwCl (fl bs) H) (hD : va_D A (fl bs)) (hA : ∀ q : Nat, H0.size ≤ q → A q) (isC isR : List Nat) (hC : isC.map (fun i => bs[i]?) = cs.map some) (hRs : isR.map (fun i => bs[i]?) = rs.map some) (hn : va_nd (isC ++ isR) = true)
    (kk : ∀ (u : S) (H1 : Heap) (locs1 : List Loc), ok u → va_P D vwCl (fl (c1 u ++ rs)) H1 → va_D A (fl (c1 u ++ rs)) → va_S A H0 H1 locs1 → W p l e R s m args below meth c H1 locs1 (cells + mc) (slots + ms) Q (F0 m (pc + 3) ls ((val u).toList ++ rest))) : W p l e R s m args below meth c H locs cells slots Q (F0 m pc ls st0) := by
  have hF := fl_free hD hS hA isC hC
  intro T hT X
  obtain ⟨v', st₀, t, T', L, h0, X', hL, e1, e2, ⟨⟨u, hv, hok, hP1, hD1⟩, hFr⟩, st⟩ := hr T hT X
  cases hv
  obtain ⟨k1, k2, k3⟩ := vx_keep h0 e1 hS (fun q _ h => hF q h) hF hL hFr
  rw [← e1] at hP1
  obtain ⟨j1, j2⟩ := fl_join hP hD isC isR hC hRs hn k2 hF hP1 hD1
  obtain ⟨t2, a1, b1⟩ := kk u T'.heap (locs ++ L) hok j1 j2 k3 T' rfl X'
  exact ⟨t2, st t2 a1, b1⟩
theorem w_V {S : Type} {own C : String} {y : MethodName} {b : ByteArray} {mL nL n index d mc ms ci k0 : Nat} {ret : Option FieldType} {G : GG} {A : Nat → Prop} {bs cs rs : List va_W} {ba : Addr} {As rest st0 : List Value} {val : S → Option Value} {ok : S → Prop} {c1 : S → List va_W} {fs : List Value} {q : vw_C}
    (hM : wMet l y b mL ret d mc ms G (fl cs) (.ref ba :: As) H.size val ok (fun u => fl (c1 u))) (F : CallFix p m c cc nL s args UW own) (g : GoodIn UW (wsV own index C y (wsU y b mL ret))) (hd : y.cls = C ∧ y.cls ≠ "java/lang/invoke/MethodHandle" ∧ y.cls ≠ "java/lang/invoke/VarHandle" ∧ (parseMethodDescriptor y.desc).map (fun d => d.parameters.length) = some n)
    (hK : KK G s) (hST : ST G A s) (hS : va_S A s.heap H locs) (hP : va_P G.1 vwCl (fl bs) H) (hD : va_D A (fl bs)) (hA : ∀ q : Nat, s.heap.size ≤ q → A q) (isC isR : List Nat) (hC : isC.map (fun i => bs[i]?) = cs.map some) (hRs : isR.map (fun i => bs[i]?) = rs.map some) (hnd : va_nd (isC ++ isR) = true) (hrv : (fl cs)[k0]? = some (ba, .inr (ci, fs))) (hc : vwCl[ci]? = some q) (hqC : q.1 = C)
    (hR : d + 1 ≤ R.frames ∧ 8 + (mL + 11) + 40 * d ≤ R.locals) (hf : cells + mc ≤ R.cells ∧ slots + ms ≤ R.slots) (hn : As.length = n) (hsize : ls.size = nL) (hst : st0 = As.reverse ++ .ref ba :: rest) (hcat : (rest.map fun v => v.category).sum ≤ 8) (hdg : decode cc pc = .ok (.invokevirtual index, 3))
    (kk : ∀ (u : S) (H1 : Heap) (locs1 : List Loc), ok u → va_P G.1 vwCl (fl (c1 u ++ rs)) H1 → va_D A (fl (c1 u ++ rs)) → va_S A s.heap H1 locs1 → W p l e R s m args below meth c H1 locs1 (cells + mc) (slots + ms) Q (F0 m (pc + 3) ls ((val u).toList ++ rest))) : W p l e R s m args below meth c H locs cells slots Q (F0 m pc ls st0) := by
  have hPc := fl_sub isC hC hP
  have hDc := fl_subD isC (nd_app hnd).1 hC hD
  exact w_go (va_runV F hM (cwV n F.2.2.2.2 g rfl rfl rfl hd hR) ⟨wPc_blind, by subst hqC; exact va_recv hK hPc hc hrv, fun U hU hW => ⟨rfl, by rw [hU], by rw [hU]; exact hPc, va_K.moved hW.alike hK, hDc.weaken (fun _ _ _ _ => trivial), hST.go hS (fl_free hD hS hA isC hC) hW hU⟩⟩ rfl hn hsize hst (lv_room hcat) hdg hf) hS hP hD hA isC isR hC hRs hnd kk
theorem w_S {S : Type} {own : String} {y : MethodName} {b : ByteArray} {mL nL n index d mc ms : Nat} {ret : Option FieldType} {G : GG} {A : Nat → Prop} {bs cs rs : List va_W} {As rest st0 : List Value} {val : S → Option Value} {ok : S → Prop} {c1 : S → List va_W}
    (hM : wMet l y b mL ret d mc ms G (fl cs) As H.size val ok (fun u => fl (c1 u))) (F : CallFix p m c cc nL s args UW own) (g : GoodIn UW (va_wsS own index y (wsU y b mL ret))) (hd : y.cls ≠ "java/lang/invoke/MethodHandle" ∧ y.cls ≠ "java/lang/invoke/VarHandle" ∧ (parseMethodDescriptor y.desc).map (fun d => d.parameters.length) = some n)
    (hK : KK G s) (hST : ST G A s) (hS : va_S A s.heap H locs) (hP : va_P G.1 vwCl (fl bs) H) (hD : va_D A (fl bs)) (hA : ∀ q : Nat, s.heap.size ≤ q → A q) (isC isR : List Nat) (hC : isC.map (fun i => bs[i]?) = cs.map some) (hRs : isR.map (fun i => bs[i]?) = rs.map some) (hnd : va_nd (isC ++ isR) = true)
    (hR : d + 1 ≤ R.frames ∧ 8 + (mL + 11) + 40 * d ≤ R.locals) (hf : cells + mc ≤ R.cells ∧ slots + ms ≤ R.slots) (hn : As.length = n) (hsize : ls.size = nL) (hst : st0 = As.reverse ++ rest) (hcat : (rest.map fun v => v.category).sum ≤ 8) (hdg : decode cc pc = .ok (.invokestatic index, 3))
    (kk : ∀ (u : S) (H1 : Heap) (locs1 : List Loc), ok u → va_P G.1 vwCl (fl (c1 u ++ rs)) H1 → va_D A (fl (c1 u ++ rs)) → va_S A s.heap H1 locs1 → W p l e R s m args below meth c H1 locs1 (cells + mc) (slots + ms) Q (F0 m (pc + 3) ls ((val u).toList ++ rest))) : W p l e R s m args below meth c H locs cells slots Q (F0 m pc ls st0) := by
  have hPc := fl_sub isC hC hP
  have hDc := fl_subD isC (nd_app hnd).1 hC hD
  exact w_go (va_runS F hM (va_cwS n F.2.2.2.2 g rfl rfl rfl hd hR) ⟨wPc_blind, fun U hU hW => ⟨rfl, by rw [hU], by rw [hU]; exact hPc, va_K.moved hW.alike hK, hDc.weaken (fun _ _ _ _ => trivial), hST.go hS (fl_free hD hS hA isC hC) hW hU⟩⟩ rfl hn hsize hst (lv_room hcat) hdg hf) hS hP hD hA isC isR hC hRs hnd kk
end Rows4
