/-! ===== more forms of calls: a constant string's methods, inherited methods, the method that is overridden, constructors ===== -/
/-- a StringBuilder: its array's length and content, whether it may be Latin1 again, its count -/
abbrev SbV : Type := Nat × (Nat → Int32) × Int32 × Int32
theorem STv.strF {G : GG} {A : Nat → Prop} {U : State} {H : Heap} (h : STv G A U H) {j : Nat} (hj : sOK j) : va_O "java/lang/String" (G.2.2.1 (10 + j)) A U H ∧ va_OF "java/lang/String" "coder" "B" (.int 0) (G.2.2.1 (10 + j)) A U H ∧ va_OF "java/lang/String" "value" "[B" (.ref (G.2.2.2 j)) (G.2.2.1 (10 + j)) A U H ∧ va_T .byte (G.2.2.2 j) (strL.getD j []).length (fun i => .int (nI ((strL.getD j []).getD i 0))) A U H := h.2.2.2.2.2.2.1 j hj
theorem STv.compact {G : GG} {A : Nat → Prop} {U : State} {H : Heap} (h : STv G A U H) : va_Z "java/lang/String" "COMPACT_STRINGS" "Z" (.int 1) A U H := h.2.2.2.2.1
theorem STv.mw {G : GG} {A : Nat → Prop} {U : State} {H : Heap} (h : STv G A U H) {w : Cond} (hw : w ∈ MW) : va_Nw w U := h.2.2.2.2.2.2.2.2.2.1 w hw
theorem STv.dig1 {G : GG} {A : Nat → Prop} {U : State} {H : Heap} (h : STv G A U H) : va_Z "java/lang/Integer" "DigitOnes" "[B" (.ref (G.2.2.2 100)) A U H := h.2.2.2.2.2.2.2.2.2.2.1
theorem STv.digT1 {G : GG} {A : Nat → Prop} {U : State} {H : Heap} (h : STv G A U H) : va_T .byte (G.2.2.2 100) 100 (fun j => .int (nI (48 + j % 10))) A U H := h.2.2.2.2.2.2.2.2.2.2.2.1
theorem STv.dig2 {G : GG} {A : Nat → Prop} {U : State} {H : Heap} (h : STv G A U H) : va_Z "java/lang/Integer" "DigitTens" "[B" (.ref (G.2.2.2 101)) A U H := h.2.2.2.2.2.2.2.2.2.2.2.2.1
theorem STv.digT2 {G : GG} {A : Nat → Prop} {U : State} {H : Heap} (h : STv G A U H) : va_T .byte (G.2.2.2 101) 100 (fun j => .int (nI (48 + j / 10))) A U H := h.2.2.2.2.2.2.2.2.2.2.2.2.2.1
theorem STv.fmt {G : GG} {A : Nat → Prop} {U : State} {H : Heap} (h : STv G A U H) : va_Zq "jdk/internal/util/Preconditions" "SIOOBE_FORMATTER" "Ljava/util/function/BiFunction;" A U H := h.2.2.2.2.2.2.2.2.2.2.2.2.2.2.1
theorem STv.scr {G : GG} {A : Nat → Prop} {U : State} {H : Heap} (h : STv G A U H) : va_T .int (scB G) (scL G) (fun i => .int (scX G i)) A U H ∧ scL G < 2 ^ 31 := h.2.2.2.2.2.2.2.2.2.2.2.2.2.2.2
theorem mw {w : Cond} (k : Nat) (h : lw_tbl[k]? = some w) (g : isNestW w = true) : w ∈ MW := List.mem_filter.mpr ⟨List.mem_of_getElem? h, g⟩
theorem recv_str {G : GG} {A : Nat → Prop} {s : State} {H : Heap} {locs : List Loc} {j : Nat} (hST : ST G A s) (hS : va_S A s.heap H locs) (hj : sOK j) : ∃ cell : Cell, H[G.2.2.1 (10 + j)]? = some cell ∧ cell.vm.isStatics = false ∧ s.vm.findClass "java/lang/String" = some cell.cls := by
  obtain ⟨cell, h1, h2, h3, -⟩ := (hST.strF hj).1.kept hS.2.1
  exact ⟨cell, h1, h2, h3⟩
theorem gU {own C owner : String} {idx n : Nat} {y : MethodName} {b : ByteArray} {ret : Option FieldType} (h1 : Cond.methodLink own idx y ∈ UW) (h2 : Cond.sameMethod y.cls owner y.name y.desc ∈ UW) (h3 : Cond.selects C y y ∈ UW) (h4 : Cond.instanceMethod y ∈ UW) (h6 : Cond.initialized y.cls ∈ UW) (h5 : Cond.code y b n ret ∈ UW) : GoodIn UW (va_wsU own idx C owner y y (wsU y b n ret)) := by
  refine uw_in fun w hw => ?_
  rcases List.mem_append.mp hw with h | h
  · simp only [List.mem_cons, List.not_mem_nil, or_false] at h
    rcases h with rfl | rfl | rfl | rfl | rfl <;> assumption
  · exact uw_U h5 w h
theorem gSU {own : String} {idx n : Nat} {y : MethodName} {b : ByteArray} {ret : Option FieldType} (h1 : Cond.methodLink own idx y ∈ UW) (h2 : Cond.sameMethod y.cls y.cls y.name y.desc ∈ UW) (h3 : Cond.superclass own y.cls ∈ UW) (h4 : Cond.instanceMethod y ∈ UW) (h6 : Cond.initialized y.cls ∈ UW) (h5 : Cond.code y b n ret ∈ UW) : GoodIn UW (va_wsSU own idx y (wsU y b n ret)) := by
  refine uw_in fun w hw => ?_
  rcases List.mem_append.mp hw with h | h
  · simp only [List.mem_cons, List.not_mem_nil, or_false] at h
    rcases h with rfl | rfl | rfl | rfl | rfl <;> assumption
  · exact uw_U h5 w h
theorem cwm {w : Cond} (k : Nat) (h : lw_tbl[k]? = some w) (g : isCastW w = true) : w ∈ CW := List.mem_filter.mpr ⟨List.mem_of_getElem? h, g⟩
theorem STv.cw {G : GG} {A : Nat → Prop} {U : State} {H : Heap} (h : STv G A U H) {y : MethodName} (hw : Cond.privateMethod y ∈ CW) {args : Array Value} : (Cond.privateMethod y).before args U = true := va_tabs rfl rfl (h.2.2.2.2.2.2.2.1 _ hw)
/-- the word that a private method is the one that its class selects -/
theorem pv_self {s : State} {args : Array Value} {y : MethodName} {own : String} {k9 : ClassId} (hown : s.vm.findClass own = some k9) (hoy : y.cls = own) (hin : (Cond.instanceMethod y).before args s = true) (hsame : (Cond.sameMethod y.cls y.cls y.name y.desc).before args s = true) (hpr : (Cond.privateMethod y).before args s = true) (hy : y.cls ≠ "java/lang/invoke/MethodHandle" ∧ y.cls ≠ "java/lang/invoke/VarHandle") : (Cond.selects y.cls y y).before args s = true := by
  obtain ⟨mk, methM, hnamed, -, -, -⟩ := Cond.instanceMethod_spec hin
  have hc : s.vm.findClass y.cls = some k9 := by rw [hoy]; exact hown
  obtain ⟨-, k, hk, hni⟩ := Cond.sameMethod_spec hc (State.methodFound?_of_named hnamed hy) hsame
  exact Stand.selects_self_of_private hc hk hni (Cond.privateMethod_at hpr) hin hy
section Rows32
variable {p : Program} {l : Launch} {e : Env} {R : Room} {s : State} {m : MethodId} {args : Array Value} {below : List Frame} {meth : Method} {c : Code} {H : Heap} {locs : List Loc} {cells slots : Nat} {Q : State → Prop} {cc : ByteArray} {pc : Nat} {ls : Array Slot}
theorem pv_run {y : MethodName} {bytes cc : ByteArray} {maxL nL mc ms n index : Nat} {ret : Option FieldType} {ws : List Cond} {rm : Room} {Pc : Array Value → State → Prop} {Qc : Array Value → State → Outcome → State → Prop} {free : Addr → Prop} {Ts : List Cond} {own C : String} {b : Addr} {As rest : List Value} {g : JFrame}
    (S : CallFix p m c cc nL s args Ts own) (hM : Met l y ws rm Pc Qc mc ms free) (cw : CallB R s args own index y bytes maxL ret ws rm mc ms n) (hin : (Cond.instanceMethod y).before args s = true) (hse : (Cond.selects y.cls y y).before args s = true) (hpr : s.PrivateAt y) (hr : ∃ cell : Cell, H[b]? = some cell ∧ cell.vm.isStatics = false ∧ s.vm.findClass C = some cell.cls) (hp : PreS s H Pc (.ref b :: As))
    (hg : g.method = m) (hn : As.length = n) (hsize : g.locals.size = nL) (hstack : g.stack = As.reverse ++ .ref b :: rest) (hW : 2 * g.monitorRoom + (rest.map fun v => v.category).sum ≤ 8) (hdg : decode cc g.pc = .ok (.invokevirtual index, 3)) (hf : cells + mc ≤ R.cells ∧ slots + ms ≤ R.slots) :
    va_Run p l e R s m args below meth c H locs cells slots mc ms g rest (Qc (Value.ref b :: As).toArray) (free) := by
  have hK : Free.Back l R p e below s args y 3 8 (PreOf R mc ms Pc) (PostOf Qc mc ms free) := callBack cw hM hp.1
  obtain ⟨-, -, -, -, -, -, hcode, -, hy, hlen, hl⟩ := cw
  obtain ⟨hx, hb, hml, ho, -⟩ := S
  obtain ⟨cellB, hcB, hoB, -⟩ := hr
  intro T hT X
  obtain ⟨v, vm₁, ⟨U', l2, c2, s2⟩, hW₁, X', ⟨g', mk, t, L, e1, e2, hq, h1, hL, h2, h3⟩, st⟩ := X.privateBack hx (bytes := bytes) (maxL := maxL) (ret := ret) ho hl hin hse hpr hcode hy hK hg (hsize.trans hml.symm) (Steps.refl _) (a := b) (cell := cellB) (by rw [hT]; exact hcB) (fun z h => by rw [h] at hoB; cases hoB) (argsL := As) (rest := rest) (fun sig h => hn.trans (hlen sig h)) hstack hW (by rw [hb]; exact hdg)
    (fun vm₁ hW₁ => ⟨hf.1, hf.2, hp.2 (T.setVm vm₁) hT hW₁⟩)
  dsimp only [Pt.U, Pt.locs, Pt.cells, Pt.slots] at X' e1 e2 h1 h2 h3 st
  subst h1; subst h2; subst h3
  exact ⟨v, (T.setVm vm₁).calling g' mk (Value.ref b :: As).toArray, t, U', L, hT, X', hL, e1, e2, hq, fun t9 h9 => st.trans h9⟩
theorem w_newB {G : GG} {A : Nat → Prop} {bs : List va_W} {rest : List Value} (hx : p.tables.exec = Jvm.exec) (hb : c.code = cc) (harr : (Cond.arrayClass .byte).before args s = true) (hK : KK G s) (hP : va_P G.1 vwCl (fl bs) H) (hD : va_D A (fl bs)) (hS : va_S A s.heap H locs) (hA : ∀ q : Nat, s.heap.size ≤ q → A q)
    {n : Int32} {N : Nat} (hn : ¬ n < 0) (hN : n.toNatClampNeg = N) (hby : N * 1 ≤ 536870912) (hcells : cells + 1 ≤ R.cells) (hslots : slots + N ≤ R.slots) (hdg : decode cc pc = .ok (.newarray .byte, 2))
    (kk : ∀ (q : Nat) (H1 : Heap), va_P G.1 vwCl (fl (bs ++ [[(q, .inl (G.2.1 2, N, .inl (fun _ => 0)))]])) H1 → va_D A (fl (bs ++ [[(q, .inl (G.2.1 2, N, .inl (fun _ => 0)))]])) → va_S A s.heap H1 locs →
      W p l e R s m args below meth c H1 locs (cells + 1) (slots + N) Q (F0 m (pc + 2) ls (.ref q :: rest))) : W p l e R s m args below meth c H locs cells slots Q (F0 m pc ls (.int n :: rest)) := by
  refine va_newa (atype := .byte) (ty := .byte) (a0 := (N, .inl (fun _ => 0))) hx hb harr rfl hK hP hD hS hA (fun cA => rfl) hn hN hby hcells hslots hdg (fun q cA H1 hK1 hP1 hD1 hS1 => ?_)
  have e1 := (hK.2 2 _ rfl).2
  have e2 := (hK1.2 3 _ rfl).2
  have e : cA = G.2.1 2 := Option.some.inj (e2.symm.trans e1)
  subst e
  have e3 : fl (bs ++ [[(q, .inl (G.2.1 2, N, .inl (fun _ => 0)))]]) = fl bs ++ [(q, .inl (G.2.1 2, N, .inl (fun _ => 0)))] := by simp [fl]
  exact kk q H1 (by rw [e3]; exact hP1) (by rw [e3]; exact hD1) hS1
theorem r_Vs {own C : String} {y : MethodName} {b : ByteArray} {mL nL n index d : Nat} {ret : Option FieldType} {G : GG} {A : Nat → Prop} {ws wc : va_W} {ba : Addr} {As rest st0 st1 : List Value} {v : Option Value} {ex : Prop}
    (hM : rMet l y b mL ret d G wc (.ref ba :: As) v ex) (S : CallFix p m c cc nL s args UW own) (g : GoodIn UW (wsV own index C y (wsU y b mL ret))) (hd : y.cls = C ∧ y.cls ≠ "java/lang/invoke/MethodHandle" ∧ y.cls ≠ "java/lang/invoke/VarHandle" ∧ (parseMethodDescriptor y.desc).map (fun d => d.parameters.length) = some n)
    (hK : KK G s) (hST : ST G A s) (hS : va_S A s.heap H locs) (hP : va_P G.1 vwCl ws H) (isC : List Nat) (hC : isC.filterMap (fun i => ws[i]?) = wc) (hr : ∃ cell : Cell, H[ba]? = some cell ∧ cell.vm.isStatics = false ∧ s.vm.findClass C = some cell.cls)
    (hR : d + 1 ≤ R.frames ∧ 8 + (mL + 11) + 40 * d ≤ R.locals) (hf : cells ≤ R.cells ∧ slots ≤ R.slots) (hn : As.length = n) (hsize : ls.size = nL) (hst : st0 = As.reverse ++ .ref ba :: rest) (hcat : (rest.map fun v => v.category).sum ≤ 8) (hdg : decode cc pc = .ok (.invokevirtual index, 3)) (h1 : v.toList ++ rest = st1)
    (kk : ex → W p l e R s m args below meth c H locs cells slots Q (F0 m (pc + 3) ls st1)) : W p l e R s m args below meth c H locs cells slots Q (F0 m pc ls st0) := by
  have hPc := hP.sub isC hC
  exact r_go (va_runV S hM (cwV n S.2.2.2.2 g rfl rfl rfl hd hR) ⟨rPc_blind, hr, fun U hU hW => ⟨rfl, by rw [hU]; exact hPc, va_K.moved hW.alike hK, hST.go hS (fun _ h => h.elim) hW hU⟩⟩ rfl hn hsize hst (lv_room hcat) hdg hf) h1 kk
theorem r_U {own C owner : String} {y : MethodName} {b : ByteArray} {mL nL n index d : Nat} {ret : Option FieldType} {G : GG} {A : Nat → Prop} {ws wc : va_W} {ba : Addr} {As rest st0 st1 : List Value} {v : Option Value} {ex : Prop}
    (hM : rMet l y b mL ret d G wc (.ref ba :: As) v ex) (S : CallFix p m c cc nL s args UW own) (g : GoodIn UW (va_wsU own index C owner y y (wsU y b mL ret))) (hd : owner ≠ "java/lang/invoke/MethodHandle" ∧ owner ≠ "java/lang/invoke/VarHandle" ∧ (parseMethodDescriptor y.desc).map (fun d => d.parameters.length) = some n) (hyo : y = ⟨owner, y.name, y.desc⟩)
    (hK : KK G s) (hST : ST G A s) (hS : va_S A s.heap H locs) (hP : va_P G.1 vwCl ws H) (isC : List Nat) (hC : isC.filterMap (fun i => ws[i]?) = wc) (hr : ∃ cell : Cell, H[ba]? = some cell ∧ cell.vm.isStatics = false ∧ s.vm.findClass C = some cell.cls)
    (hR : d + 1 ≤ R.frames ∧ 8 + (mL + 11) + 40 * d ≤ R.locals) (hf : cells ≤ R.cells ∧ slots ≤ R.slots) (hn : As.length = n) (hsize : ls.size = nL) (hst : st0 = As.reverse ++ .ref ba :: rest) (hcat : (rest.map fun v => v.category).sum ≤ 8) (hdg : decode cc pc = .ok (.invokevirtual index, 3)) (h1 : v.toList ++ rest = st1)
    (kk : ex → W p l e R s m args below meth c H locs cells slots Q (F0 m (pc + 3) ls st1)) : W p l e R s m args below meth c H locs cells slots Q (F0 m pc ls st0) := by
  have hPc := hP.sub isC hC
  exact r_go (va_runU S hM (va_cwU n S.2.2.2.2 g rfl rfl rfl hyo hd hR) ⟨rPc_blind, hr, fun U hU hW => ⟨rfl, by rw [hU]; exact hPc, va_K.moved hW.alike hK, hST.go hS (fun _ h => h.elim) hW hU⟩⟩ rfl hn hsize hst (lv_room hcat) hdg hf) h1 kk
theorem r_SU {own C : String} {y : MethodName} {b : ByteArray} {mL nL n index d : Nat} {ret : Option FieldType} {G : GG} {A : Nat → Prop} {ws wc : va_W} {ba : Addr} {As rest st0 st1 : List Value} {v : Option Value} {ex : Prop}
    (hM : rMet l y b mL ret d G wc (.ref ba :: As) v ex) (S : CallFix p m c cc nL s args UW own) (g : GoodIn UW (va_wsSU own index y (wsU y b mL ret))) (hd : y.name ≠ "<init>" ∧ (parseMethodDescriptor y.desc).map (fun d => d.parameters.length) = some n) (cX : Nat) (qX : vw_C) (hcX : vwCl[cX]? = some qX) (hqX : qX.1 = C)
    (hK : KK G s) (hST : ST G A s) (hS : va_S A s.heap H locs) (hP : va_P G.1 vwCl ws H) (isC : List Nat) (hC : isC.filterMap (fun i => ws[i]?) = wc) (hr : ∃ cell : Cell, H[ba]? = some cell ∧ cell.vm.isStatics = false ∧ s.vm.findClass C = some cell.cls)
    (hR : d + 1 ≤ R.frames ∧ 8 + (mL + 11) + 40 * d ≤ R.locals) (hf : cells ≤ R.cells ∧ slots ≤ R.slots) (hn : As.length = n) (hsize : ls.size = nL) (hst : st0 = As.reverse ++ .ref ba :: rest) (hcat : (rest.map fun v => v.category).sum ≤ 8) (hdg : decode cc pc = .ok (.invokespecial index, 3)) (h1 : v.toList ++ rest = st1)
    (kk : ex → W p l e R s m args below meth c H locs cells slots Q (F0 m (pc + 3) ls st1)) : W p l e R s m args below meth c H locs cells slots Q (F0 m pc ls st0) := by
  have hPc := hP.sub isC hC
  exact r_go (va_runSU (by subst hqX; exact (hK.1 cX qX hcX).2) S hM (va_cwSU n S.2.2.2.2 g rfl rfl rfl hd hR) ⟨rPc_blind, hr, fun U hU hW => ⟨rfl, by rw [hU]; exact hPc, va_K.moved hW.alike hK, hST.go hS (fun _ h => h.elim) hW hU⟩⟩ rfl hn hsize hst (lv_room hcat) hdg hf) h1 kk
theorem w_Vs {S : Type} {own C : String} {y : MethodName} {b : ByteArray} {mL nL n index d mc ms : Nat} {ret : Option FieldType} {G : GG} {A : Nat → Prop} {bs cs rs : List va_W} {ba : Addr} {As rest st0 : List Value} {val : S → Option Value} {ok : S → Prop} {c1 : S → List va_W}
    (hM : wMet l y b mL ret d mc ms G (fl cs) (.ref ba :: As) H.size val ok (fun u => fl (c1 u))) (F : CallFix p m c cc nL s args UW own) (g : GoodIn UW (wsV own index C y (wsU y b mL ret))) (hd : y.cls = C ∧ y.cls ≠ "java/lang/invoke/MethodHandle" ∧ y.cls ≠ "java/lang/invoke/VarHandle" ∧ (parseMethodDescriptor y.desc).map (fun d => d.parameters.length) = some n)
    (hK : KK G s) (hST : ST G A s) (hS : va_S A s.heap H locs) (hP : va_P G.1 vwCl (fl bs) H) (hD : va_D A (fl bs)) (hA : ∀ q : Nat, s.heap.size ≤ q → A q) (isC isR : List Nat) (hC : isC.map (fun i => bs[i]?) = cs.map some) (hRs : isR.map (fun i => bs[i]?) = rs.map some) (hnd : va_nd (isC ++ isR) = true) (hr : ∃ cell : Cell, H[ba]? = some cell ∧ cell.vm.isStatics = false ∧ s.vm.findClass C = some cell.cls)
    (hR : d + 1 ≤ R.frames ∧ 8 + (mL + 11) + 40 * d ≤ R.locals) (hf : cells + mc ≤ R.cells ∧ slots + ms ≤ R.slots) (hn : As.length = n) (hsize : ls.size = nL) (hst : st0 = As.reverse ++ .ref ba :: rest) (hcat : (rest.map fun v => v.category).sum ≤ 8) (hdg : decode cc pc = .ok (.invokevirtual index, 3))
    (kk : ∀ (u : S) (H1 : Heap) (locs1 : List Loc), ok u → va_P G.1 vwCl (fl (c1 u ++ rs)) H1 → va_D A (fl (c1 u ++ rs)) → va_S A s.heap H1 locs1 → W p l e R s m args below meth c H1 locs1 (cells + mc) (slots + ms) Q (F0 m (pc + 3) ls ((val u).toList ++ rest))) : W p l e R s m args below meth c H locs cells slots Q (F0 m pc ls st0) := by
  have hPc := fl_sub isC hC hP
  have hDc := fl_subD isC (nd_app hnd).1 hC hD
  exact w_go (va_runV F hM (cwV n F.2.2.2.2 g rfl rfl rfl hd hR) ⟨wPc_blind, hr, fun U hU hW => ⟨rfl, by rw [hU], by rw [hU]; exact hPc, va_K.moved hW.alike hK, hDc.weaken (fun _ _ _ _ => trivial), hST.go hS (fl_free hD hS hA isC hC) hW hU⟩⟩ rfl hn hsize hst (lv_room hcat) hdg hf) hS hP hD hA isC isR hC hRs hnd kk
theorem w_U {S : Type} {own C owner : String} {y : MethodName} {b : ByteArray} {mL nL n index d mc ms : Nat} {ret : Option FieldType} {G : GG} {A : Nat → Prop} {bs cs rs : List va_W} {ba : Addr} {As rest st0 : List Value} {val : S → Option Value} {ok : S → Prop} {c1 : S → List va_W}
    (hM : wMet l y b mL ret d mc ms G (fl cs) (.ref ba :: As) H.size val ok (fun u => fl (c1 u))) (F : CallFix p m c cc nL s args UW own) (g : GoodIn UW (va_wsU own index C owner y y (wsU y b mL ret))) (hd : owner ≠ "java/lang/invoke/MethodHandle" ∧ owner ≠ "java/lang/invoke/VarHandle" ∧ (parseMethodDescriptor y.desc).map (fun d => d.parameters.length) = some n) (hyo : y = ⟨owner, y.name, y.desc⟩)
    (hK : KK G s) (hST : ST G A s) (hS : va_S A s.heap H locs) (hP : va_P G.1 vwCl (fl bs) H) (hD : va_D A (fl bs)) (hA : ∀ q : Nat, s.heap.size ≤ q → A q) (isC isR : List Nat) (hC : isC.map (fun i => bs[i]?) = cs.map some) (hRs : isR.map (fun i => bs[i]?) = rs.map some) (hnd : va_nd (isC ++ isR) = true) (hr : ∃ cell : Cell, H[ba]? = some cell ∧ cell.vm.isStatics = false ∧ s.vm.findClass C = some cell.cls)
    (hR : d + 1 ≤ R.frames ∧ 8 + (mL + 11) + 40 * d ≤ R.locals) (hf : cells + mc ≤ R.cells ∧ slots + ms ≤ R.slots) (hn : As.length = n) (hsize : ls.size = nL) (hst : st0 = As.reverse ++ .ref ba :: rest) (hcat : (rest.map fun v => v.category).sum ≤ 8) (hdg : decode cc pc = .ok (.invokevirtual index, 3))
    (kk : ∀ (u : S) (H1 : Heap) (locs1 : List Loc), ok u → va_P G.1 vwCl (fl (c1 u ++ rs)) H1 → va_D A (fl (c1 u ++ rs)) → va_S A s.heap H1 locs1 → W p l e R s m args below meth c H1 locs1 (cells + mc) (slots + ms) Q (F0 m (pc + 3) ls ((val u).toList ++ rest))) : W p l e R s m args below meth c H locs cells slots Q (F0 m pc ls st0) := by
  have hPc := fl_sub isC hC hP
  have hDc := fl_subD isC (nd_app hnd).1 hC hD
  exact w_go (va_runU F hM (va_cwU n F.2.2.2.2 g rfl rfl rfl hyo hd hR) ⟨wPc_blind, hr, fun U hU hW => ⟨rfl, by rw [hU], by rw [hU]; exact hPc, va_K.moved hW.alike hK, hDc.weaken (fun _ _ _ _ => trivial), hST.go hS (fl_free hD hS hA isC hC) hW hU⟩⟩ rfl hn hsize hst (lv_room hcat) hdg hf) hS hP hD hA isC isR hC hRs hnd kk
theorem w_SU {S : Type} {own C : String} {y : MethodName} {b : ByteArray} {mL nL n index d mc ms : Nat} {ret : Option FieldType} {G : GG} {A : Nat → Prop} {bs cs rs : List va_W} {ba : Addr} {As rest st0 : List Value} {val : S → Option Value} {ok : S → Prop} {c1 : S → List va_W}
    (hM : wMet l y b mL ret d mc ms G (fl cs) (.ref ba :: As) H.size val ok (fun u => fl (c1 u))) (F : CallFix p m c cc nL s args UW own) (g : GoodIn UW (va_wsSU own index y (wsU y b mL ret))) (hd : y.name ≠ "<init>" ∧ (parseMethodDescriptor y.desc).map (fun d => d.parameters.length) = some n) (cX : Nat) (qX : vw_C) (hcX : vwCl[cX]? = some qX) (hqX : qX.1 = C)
    (hK : KK G s) (hST : ST G A s) (hS : va_S A s.heap H locs) (hP : va_P G.1 vwCl (fl bs) H) (hD : va_D A (fl bs)) (hA : ∀ q : Nat, s.heap.size ≤ q → A q) (isC isR : List Nat) (hC : isC.map (fun i => bs[i]?) = cs.map some) (hRs : isR.map (fun i => bs[i]?) = rs.map some) (hnd : va_nd (isC ++ isR) = true) (hr : ∃ cell : Cell, H[ba]? = some cell ∧ cell.vm.isStatics = false ∧ s.vm.findClass C = some cell.cls)
    (hR : d + 1 ≤ R.frames ∧ 8 + (mL + 11) + 40 * d ≤ R.locals) (hf : cells + mc ≤ R.cells ∧ slots + ms ≤ R.slots) (hn : As.length = n) (hsize : ls.size = nL) (hst : st0 = As.reverse ++ .ref ba :: rest) (hcat : (rest.map fun v => v.category).sum ≤ 8) (hdg : decode cc pc = .ok (.invokespecial index, 3))
    (kk : ∀ (u : S) (H1 : Heap) (locs1 : List Loc), ok u → va_P G.1 vwCl (fl (c1 u ++ rs)) H1 → va_D A (fl (c1 u ++ rs)) → va_S A s.heap H1 locs1 → W p l e R s m args below meth c H1 locs1 (cells + mc) (slots + ms) Q (F0 m (pc + 3) ls ((val u).toList ++ rest))) : W p l e R s m args below meth c H locs cells slots Q (F0 m pc ls st0) := by
  have hPc := fl_sub isC hC hP
  have hDc := fl_subD isC (nd_app hnd).1 hC hD
  exact w_go (va_runSU (by subst hqX; exact (hK.1 cX qX hcX).2) F hM (va_cwSU n F.2.2.2.2 g rfl rfl rfl hd hR) ⟨wPc_blind, hr, fun U hU hW => ⟨rfl, by rw [hU], by rw [hU]; exact hPc, va_K.moved hW.alike hK, hDc.weaken (fun _ _ _ _ => trivial), hST.go hS (fl_free hD hS hA isC hC) hW hU⟩⟩ rfl hn hsize hst (lv_room hcat) hdg hf) hS hP hD hA isC isR hC hRs hnd kk
theorem w_I {S : Type} {own : String} {y : MethodName} {b : ByteArray} {mL nL n index d mc ms : Nat} {G : GG} {A : Nat → Prop} {bs cs rs : List va_W} {ba : Addr} {As rest st0 : List Value} {val : S → Option Value} {ok : S → Prop} {c1 : S → List va_W}
    (hM : wMet l y b mL none d mc ms G (fl cs) (.ref ba :: As) H.size val ok (fun u => fl (c1 u))) (F : CallFix p m c cc nL s args UW own) (hl : (Cond.methodLink own index y).before args s = true) (g5 : Cond.code y b mL none ∈ UW) (g2 : Cond.initialized y.cls ∈ UW) (g3 : Cond.instanceMethod y ∈ UW) (hy9 : y.name = "<init>") (hd : y.cls ≠ "java/lang/invoke/MethodHandle" ∧ y.cls ≠ "java/lang/invoke/VarHandle" ∧ (parseMethodDescriptor y.desc).map (fun d => d.parameters.length) = some n)
    (hK : KK G s) (hST : ST G A s) (hS : va_S A s.heap H locs) (hP : va_P G.1 vwCl (fl bs) H) (hD : va_D A (fl bs)) (hA : ∀ q : Nat, s.heap.size ≤ q → A q) (isC isR : List Nat) (hC : isC.map (fun i => bs[i]?) = cs.map some) (hRs : isR.map (fun i => bs[i]?) = rs.map some) (hnd : va_nd (isC ++ isR) = true)
    (hR : d + 1 ≤ R.frames ∧ 8 + (mL + 11) + 40 * d ≤ R.locals) (hf : cells + mc ≤ R.cells ∧ slots + ms ≤ R.slots) (hn : As.length = n) (hsize : ls.size = nL) (hst : st0 = As.reverse ++ .ref ba :: rest) (hcat : (rest.map fun v => v.category).sum ≤ 8) (hdg : decode cc pc = .ok (.invokespecial index, 3))
    (kk : ∀ (u : S) (H1 : Heap) (locs1 : List Loc), ok u → va_P G.1 vwCl (fl (c1 u ++ rs)) H1 → va_D A (fl (c1 u ++ rs)) → va_S A s.heap H1 locs1 → W p l e R s m args below meth c H1 locs1 (cells + mc) (slots + ms) Q (F0 m (pc + 3) ls ((val u).toList ++ rest))) : W p l e R s m args below meth c H locs cells slots Q (F0 m pc ls st0) := by
  have hPc := fl_sub isC hC hP
  have hDc := fl_subD isC (nd_app hnd).1 hC hD
  exact w_go (va_runI F hM ⟨callB_of n F.2.2.2.2 (uw_in (uw_U g5)) rfl rfl rfl (F.2.2.2.2 _ g2) hl hd hR, hy9, F.2.2.2.2 _ g3⟩ ⟨wPc_blind, fun U hU hW => ⟨rfl, by rw [hU], by rw [hU]; exact hPc, va_K.moved hW.alike hK, hDc.weaken (fun _ _ _ _ => trivial), hST.go hS (fl_free hD hS hA isC hC) hW hU⟩⟩ rfl hn hsize hst (lv_room hcat) hdg hf) hS hP hD hA isC isR hC hRs hnd kk
theorem r_I {own : String} {y : MethodName} {b : ByteArray} {mL nL n index d : Nat} {G : GG} {A : Nat → Prop} {ws wc : va_W} {ba : Addr} {As rest st0 st1 : List Value} {v : Option Value} {ex : Prop}
    (hM : rMet l y b mL none d G wc (.ref ba :: As) v ex) (S : CallFix p m c cc nL s args UW own) (hl : (Cond.methodLink own index y).before args s = true) (g5 : Cond.code y b mL none ∈ UW) (g2 : Cond.initialized y.cls ∈ UW) (g3 : Cond.instanceMethod y ∈ UW) (hy9 : y.name = "<init>") (hd : y.cls ≠ "java/lang/invoke/MethodHandle" ∧ y.cls ≠ "java/lang/invoke/VarHandle" ∧ (parseMethodDescriptor y.desc).map (fun d => d.parameters.length) = some n)
    (hK : KK G s) (hST : ST G A s) (hS : va_S A s.heap H locs) (hP : va_P G.1 vwCl ws H) (isC : List Nat) (hC : isC.filterMap (fun i => ws[i]?) = wc)
    (hR : d + 1 ≤ R.frames ∧ 8 + (mL + 11) + 40 * d ≤ R.locals) (hf : cells ≤ R.cells ∧ slots ≤ R.slots) (hn : As.length = n) (hsize : ls.size = nL) (hst : st0 = As.reverse ++ .ref ba :: rest) (hcat : (rest.map fun v => v.category).sum ≤ 8) (hdg : decode cc pc = .ok (.invokespecial index, 3)) (h1 : v.toList ++ rest = st1)
    (kk : ex → W p l e R s m args below meth c H locs cells slots Q (F0 m (pc + 3) ls st1)) : W p l e R s m args below meth c H locs cells slots Q (F0 m pc ls st0) := by
  have hPc := hP.sub isC hC
  exact r_go (va_runI S hM ⟨callB_of n S.2.2.2.2 (uw_in (uw_U g5)) rfl rfl rfl (S.2.2.2.2 _ g2) hl hd hR, hy9, S.2.2.2.2 _ g3⟩ ⟨rPc_blind, fun U hU hW => ⟨rfl, by rw [hU]; exact hPc, va_K.moved hW.alike hK, hST.go hS (fun _ h => h.elim) hW hU⟩⟩ rfl hn hsize hst (lv_room hcat) hdg hf) h1 kk
theorem w_IN {S : Type} {own host : String} {y : MethodName} {b : ByteArray} {mL nL n index d mc ms : Nat} {G : GG} {A : Nat → Prop} {bs cs rs : List va_W} {ba : Addr} {As rest st0 : List Value} {val : S → Option Value} {ok : S → Prop} {c1 : S → List va_W}
    (hM : wMet l y b mL none d mc ms G (fl cs) (.ref ba :: As) H.size val ok (fun u => fl (c1 u))) (F : CallFix p m c cc nL s args UW own) (hl : va_Nw (.methodLinkNest own index y host) s) (g5 : Cond.code y b mL none ∈ UW) (g2 : Cond.initialized y.cls ∈ UW) (g3 : Cond.instanceMethod y ∈ UW) (hy9 : y.name = "<init>") (hd : y.cls ≠ "java/lang/invoke/MethodHandle" ∧ y.cls ≠ "java/lang/invoke/VarHandle" ∧ (parseMethodDescriptor y.desc).map (fun d => d.parameters.length) = some n)
    (hK : KK G s) (hST : ST G A s) (hS : va_S A s.heap H locs) (hP : va_P G.1 vwCl (fl bs) H) (hD : va_D A (fl bs)) (hA : ∀ q : Nat, s.heap.size ≤ q → A q) (isC isR : List Nat) (hC : isC.map (fun i => bs[i]?) = cs.map some) (hRs : isR.map (fun i => bs[i]?) = rs.map some) (hnd : va_nd (isC ++ isR) = true)
    (hR : d + 1 ≤ R.frames ∧ 8 + (mL + 11) + 40 * d ≤ R.locals) (hf : cells + mc ≤ R.cells ∧ slots + ms ≤ R.slots) (hn : As.length = n) (hsize : ls.size = nL) (hst : st0 = As.reverse ++ .ref ba :: rest) (hcat : (rest.map fun v => v.category).sum ≤ 8) (hdg : decode cc pc = .ok (.invokespecial index, 3))
    (kk : ∀ (u : S) (H1 : Heap) (locs1 : List Loc), ok u → va_P G.1 vwCl (fl (c1 u ++ rs)) H1 → va_D A (fl (c1 u ++ rs)) → va_S A s.heap H1 locs1 → W p l e R s m args below meth c H1 locs1 (cells + mc) (slots + ms) Q (F0 m (pc + 3) ls ((val u).toList ++ rest))) : W p l e R s m args below meth c H locs cells slots Q (F0 m pc ls st0) := by
  have hPc := fl_sub isC hC hP
  have hDc := fl_subD isC (nd_app hnd).1 hC hD
  exact w_go (va_runIN F hM ⟨va_cnB n F.2.2.2.2 (uw_in (uw_U g5)) rfl rfl rfl hl (F.2.2.2.2 _ g2) hd hR, hy9, F.2.2.2.2 _ g3⟩ ⟨wPc_blind, fun U hU hW => ⟨rfl, by rw [hU], by rw [hU]; exact hPc, va_K.moved hW.alike hK, hDc.weaken (fun _ _ _ _ => trivial), hST.go hS (fl_free hD hS hA isC hC) hW hU⟩⟩ rfl hn hsize hst (lv_room hcat) hdg hf) hS hP hD hA isC isR hC hRs hnd kk
theorem r_IN {own host : String} {y : MethodName} {b : ByteArray} {mL nL n index d : Nat} {G : GG} {A : Nat → Prop} {ws wc : va_W} {ba : Addr} {As rest st0 st1 : List Value} {v : Option Value} {ex : Prop}
    (hM : rMet l y b mL none d G wc (.ref ba :: As) v ex) (S : CallFix p m c cc nL s args UW own) (hl : va_Nw (.methodLinkNest own index y host) s) (g5 : Cond.code y b mL none ∈ UW) (g2 : Cond.initialized y.cls ∈ UW) (g3 : Cond.instanceMethod y ∈ UW) (hy9 : y.name = "<init>") (hd : y.cls ≠ "java/lang/invoke/MethodHandle" ∧ y.cls ≠ "java/lang/invoke/VarHandle" ∧ (parseMethodDescriptor y.desc).map (fun d => d.parameters.length) = some n)
    (hK : KK G s) (hST : ST G A s) (hS : va_S A s.heap H locs) (hP : va_P G.1 vwCl ws H) (isC : List Nat) (hC : isC.filterMap (fun i => ws[i]?) = wc)
    (hR : d + 1 ≤ R.frames ∧ 8 + (mL + 11) + 40 * d ≤ R.locals) (hf : cells ≤ R.cells ∧ slots ≤ R.slots) (hn : As.length = n) (hsize : ls.size = nL) (hst : st0 = As.reverse ++ .ref ba :: rest) (hcat : (rest.map fun v => v.category).sum ≤ 8) (hdg : decode cc pc = .ok (.invokespecial index, 3)) (h1 : v.toList ++ rest = st1)
    (kk : ex → W p l e R s m args below meth c H locs cells slots Q (F0 m (pc + 3) ls st1)) : W p l e R s m args below meth c H locs cells slots Q (F0 m pc ls st0) := by
  have hPc := hP.sub isC hC
  exact r_go (va_runIN S hM ⟨va_cnB n S.2.2.2.2 (uw_in (uw_U g5)) rfl rfl rfl hl (S.2.2.2.2 _ g2) hd hR, hy9, S.2.2.2.2 _ g3⟩ ⟨rPc_blind, fun U hU hW => ⟨rfl, by rw [hU]; exact hPc, va_K.moved hW.alike hK, hST.go hS (fun _ h => h.elim) hW hU⟩⟩ rfl hn hsize hst (lv_room hcat) hdg hf) h1 kk
theorem w_P {S : Type} {own C : String} {y : MethodName} {b : ByteArray} {mL nL n index d mc ms : Nat} {ret : Option FieldType} {G : GG} {A : Nat → Prop} {bs cs rs : List va_W} {ba : Addr} {As rest st0 : List Value} {val : S → Option Value} {ok : S → Prop} {c1 : S → List va_W}
    (hM : wMet l y b mL ret d mc ms G (fl cs) (.ref ba :: As) H.size val ok (fun u => fl (c1 u))) (F : CallFix p m c cc nL s args UW own) (gl : Cond.methodLink own index y ∈ UW) (g5 : Cond.code y b mL ret ∈ UW) (g2 : Cond.initialized y.cls ∈ UW) (g3 : Cond.instanceMethod y ∈ UW) (gp : Cond.privateMethod y ∈ CW) (gm : Cond.sameMethod y.cls y.cls y.name y.desc ∈ UW) (hoy : y.cls = own) (hd : y.cls ≠ "java/lang/invoke/MethodHandle" ∧ y.cls ≠ "java/lang/invoke/VarHandle" ∧ (parseMethodDescriptor y.desc).map (fun d => d.parameters.length) = some n)
    (hK : KK G s) (hST : ST G A s) (hS : va_S A s.heap H locs) (hP : va_P G.1 vwCl (fl bs) H) (hD : va_D A (fl bs)) (hA : ∀ q : Nat, s.heap.size ≤ q → A q) (isC isR : List Nat) (hC : isC.map (fun i => bs[i]?) = cs.map some) (hRs : isR.map (fun i => bs[i]?) = rs.map some) (hnd : va_nd (isC ++ isR) = true) (hr : ∃ cell : Cell, H[ba]? = some cell ∧ cell.vm.isStatics = false ∧ s.vm.findClass C = some cell.cls)
    (hR : d + 1 ≤ R.frames ∧ 8 + (mL + 11) + 40 * d ≤ R.locals) (hf : cells + mc ≤ R.cells ∧ slots + ms ≤ R.slots) (hn : As.length = n) (hsize : ls.size = nL) (hst : st0 = As.reverse ++ .ref ba :: rest) (hcat : (rest.map fun v => v.category).sum ≤ 8) (hdg : decode cc pc = .ok (.invokevirtual index, 3))
    (kk : ∀ (u : S) (H1 : Heap) (locs1 : List Loc), ok u → va_P G.1 vwCl (fl (c1 u ++ rs)) H1 → va_D A (fl (c1 u ++ rs)) → va_S A s.heap H1 locs1 → W p l e R s m args below meth c H1 locs1 (cells + mc) (slots + ms) Q (F0 m (pc + 3) ls ((val u).toList ++ rest))) : W p l e R s m args below meth c H locs cells slots Q (F0 m pc ls st0) := by
  have hPc := fl_sub isC hC hP
  have hDc := fl_subD isC (nd_app hnd).1 hC hD
  exact w_go (pv_run F hM (callB_of n F.2.2.2.2 (uw_in (uw_U g5)) rfl rfl rfl (F.2.2.2.2 _ g2) (F.2.2.2.2 _ gl) hd hR) (F.2.2.2.2 _ g3) (pv_self F.2.2.2.1 hoy (F.2.2.2.2 _ g3) (F.2.2.2.2 _ gm) (hST.cw gp) ⟨hd.1, hd.2.1⟩) (Cond.privateMethod_at (args := args) (hST.cw gp)) hr ⟨wPc_blind, fun U hU hW => ⟨rfl, by rw [hU], by rw [hU]; exact hPc, va_K.moved hW.alike hK, hDc.weaken (fun _ _ _ _ => trivial), hST.go hS (fl_free hD hS hA isC hC) hW hU⟩⟩ rfl hn hsize hst (lv_room hcat) hdg hf) hS hP hD hA isC isR hC hRs hnd kk
theorem r_P {own C : String} {y : MethodName} {b : ByteArray} {mL nL n index d : Nat} {ret : Option FieldType} {G : GG} {A : Nat → Prop} {ws wc : va_W} {ba : Addr} {As rest st0 st1 : List Value} {v : Option Value} {ex : Prop}
    (hM : rMet l y b mL ret d G wc (.ref ba :: As) v ex) (S : CallFix p m c cc nL s args UW own) (gl : Cond.methodLink own index y ∈ UW) (g5 : Cond.code y b mL ret ∈ UW) (g2 : Cond.initialized y.cls ∈ UW) (g3 : Cond.instanceMethod y ∈ UW) (gp : Cond.privateMethod y ∈ CW) (gm : Cond.sameMethod y.cls y.cls y.name y.desc ∈ UW) (hoy : y.cls = own) (hd : y.cls ≠ "java/lang/invoke/MethodHandle" ∧ y.cls ≠ "java/lang/invoke/VarHandle" ∧ (parseMethodDescriptor y.desc).map (fun d => d.parameters.length) = some n)
    (hK : KK G s) (hST : ST G A s) (hS : va_S A s.heap H locs) (hP : va_P G.1 vwCl ws H) (isC : List Nat) (hC : isC.filterMap (fun i => ws[i]?) = wc) (hr : ∃ cell : Cell, H[ba]? = some cell ∧ cell.vm.isStatics = false ∧ s.vm.findClass C = some cell.cls)
    (hR : d + 1 ≤ R.frames ∧ 8 + (mL + 11) + 40 * d ≤ R.locals) (hf : cells ≤ R.cells ∧ slots ≤ R.slots) (hn : As.length = n) (hsize : ls.size = nL) (hst : st0 = As.reverse ++ .ref ba :: rest) (hcat : (rest.map fun v => v.category).sum ≤ 8) (hdg : decode cc pc = .ok (.invokevirtual index, 3)) (h1 : v.toList ++ rest = st1)
    (kk : ex → W p l e R s m args below meth c H locs cells slots Q (F0 m (pc + 3) ls st1)) : W p l e R s m args below meth c H locs cells slots Q (F0 m pc ls st0) := by
  have hPc := hP.sub isC hC
  exact r_go (pv_run S hM (callB_of n S.2.2.2.2 (uw_in (uw_U g5)) rfl rfl rfl (S.2.2.2.2 _ g2) (S.2.2.2.2 _ gl) hd hR) (S.2.2.2.2 _ g3) (pv_self S.2.2.2.1 hoy (S.2.2.2.2 _ g3) (S.2.2.2.2 _ gm) (hST.cw gp) ⟨hd.1, hd.2.1⟩) (Cond.privateMethod_at (args := args) (hST.cw gp)) hr ⟨rPc_blind, fun U hU hW => ⟨rfl, by rw [hU]; exact hPc, va_K.moved hW.alike hK, hST.go hS (fun _ h => h.elim) hW hU⟩⟩ rfl hn hsize hst (lv_room hcat) hdg hf) h1 kk
end Rows32
section Rows32c
variable {p : Program} {l : Launch} {e : Env} {R : Room} {s : State} {m : MethodId} {args : Array Value} {below : List Frame} {meth : Method} {c : Code} {H : Heap} {locs : List Loc} {cells slots : Nat} {Q : State → Prop}
variable {cc : ByteArray} {pc : Nat} {ls : Array Slot} {rest : List Value} {D : va_G} {cl : List vw_C} {A : Nat → Prop} {a : Nat} {tys : List (ClassId × FieldType)} {ws : va_W} {H0 : Heap}
/-- an array of the tables, copied into one of the world; after the library's va_copyx -/
theorem va_copyT {cc : ByteArray} (hexec : p.tables.exec = Jvm.exec) (hb : c.code = cc) (hml : c.maxLocals = ls.size) {own : String} {index : Nat} (hown : s.vm.findClass own = some m.cls) (hlink : (Cond.methodLink own index arraycopyName).before args s = true) (hnat : (Cond.native arraycopyName).before args s = true) (hstat : (Cond.static arraycopyName).before args s = true) (hini : (Cond.initialized "java/lang/System").before args s = true)
    (hK : va_K D cl tys s) (hP : va_P D cl ws H) (hD : va_D A ws) (hS : va_S A s.heap H locs) {b0 n0 : Nat} {f : Nat → Int32} (hX : va_T .byte b0 n0 (fun i => .int (f i)) A s s.heap) (q1 t1 : Nat) {c1 : ClassId} {n1 : Nat} {g : Nat → Int32} (ha1 : ws[q1]? = some (a, .inl (c1, n1, .inl g))) (ht1 : tys[t1]? = some (c1, .byte))
    {sp dp n : Int32} (h1 : ¬ sp < 0) (h2 : ¬ dp < 0) (h3 : ¬ n < 0) (h4 : sp.toNatClampNeg + n.toNatClampNeg ≤ n0) (h5 : dp.toNatClampNeg + n.toNatClampNeg ≤ n1) (hfit : ∀ i, i < n.toNatClampNeg → fits .byte (.int (f (sp.toNatClampNeg + i))) = true)
    (hframes : 1 ≤ R.frames) (hlocals : (rest.map fun v => v.category).sum + (nativeFrameWords "java/lang/System" "arraycopy" 5 + 11) ≤ R.locals) (hdg : decode cc pc = .ok (.invokestatic index, 3))
    (kk : ∀ (H1 : Heap) (locs1 : List Loc), va_P D cl (ws.set q1 (a, .inl (c1, n1, .inl (va_cpy f g sp.toNatClampNeg dp.toNatClampNeg n.toNatClampNeg)))) H1 → va_D A (ws.set q1 (a, .inl (c1, n1, .inl (va_cpy f g sp.toNatClampNeg dp.toNatClampNeg n.toNatClampNeg)))) → va_S A s.heap H1 locs1 → W p l e R s m args below meth c H1 locs1 cells slots Q (F0 m (pc + 3) ls rest)) : W p l e R s m args below meth c H locs cells slots Q (F0 m pc ls (.int n :: .int dp :: .ref a :: .int sp :: .ref b0 :: rest)) := by
  have nn : ∀ z : Int32, ¬ z < 0 → z.toInt = (z.toNatClampNeg : Int) := by
    intro z hz
    have hz0 : (0 : Int) ≤ z.toInt := by
      have := Int32.not_lt.mp hz
      simpa using Int32.le_iff_toInt_le.mp this
    show z.toInt = ((z.toInt.toNat : Nat) : Int)
    omega
  intro T hT X
  obtain ⟨scr, hc0, hs2, hs3, hs4, -, hs5, -⟩ := hX.kept hS.2.1
  have hc1 : H[a]? = some (vp_cell c1 (n1, .inl g)) := hP q1 _ ha1
  obtain ⟨hs6, k0, hk0, cm0, hkk0⟩ := hs2
  obtain ⟨-, k1, hk1, cm1, hkk1⟩ := (hK.2 t1 _ ht1).1 n1 (fun j => .int (g j))
  obtain ⟨vm', X', step⟩ := X.arraycopy hexec hown hlink hnat hstat hini (src := b0) (dst := a) (cs := scr) (cd := vp_cell c1 (n1, .inl g)) (srcPos := sp) (destPos := dp) (n := n) (by rw [hT]; exact hc0) (by rw [hT]; exact hc1)
    hs6 (fun _ h => by cases h) hs3 (fun h => by cases h) hk0 hk1 hkk0 hkk1 (by simp [refKind]) h1 h2 h3
    (by rw [nn sp h1, nn n h3]; omega)
    (by rw [nn dp h2, nn n h3]; show ¬ _ > ((arrV c1 n1 (fun j => .int (g j))).slots.size : Int); rw [arrV_size]; omega)
    (fun vm₁ _ i hi => by
      have e : scr.slots.getD (sp.toNatClampNeg + i) .null = .int (f (sp.toNatClampNeg + i)) := by
        rw [Array.getD_eq_getD_getElem?, hs5 _ (by omega)]
        rfl
      refine ⟨?_, ?_⟩
      · rw [e]
        exact hfit i hi
      · rw [e]
        exact trivial)
    (g := F0 m pc ls (.int n :: .int dp :: .ref a :: .int sp :: .ref b0 :: rest)) rfl (by rw [hml]) (rest := rest) rfl (by rw [hb]; exact hdg) hframes (by show 2 * 0 + _ + _ ≤ _; omega)
  have e1 : copied scr (vp_cell c1 (n1, .inl g)) sp dp n = vp_cell c1 (n1, .inl (va_cpy f g sp.toNatClampNeg dp.toNatClampNeg n.toNatClampNeg)) := va_copiedX (fun z => .int z) scr c1 f g hs5 h4
  rw [e1] at X' step
  have hl : a < H.size := (Array.getElem?_eq_some_iff.mp hc1).1
  have hheap : ((T.setVm vm').setCell a (vp_cell c1 (n1, .inl (va_cpy f g sp.toNatClampNeg dp.toNatClampNeg n.toNatClampNeg)))).heap = H.setIfInBounds a (vp_cell c1 (n1, .inl (va_cpy f g sp.toNatClampNeg dp.toNatClampNeg n.toNatClampNeg))) := by rw [← hT]; rfl
  have oq : ∀ q : Nat, q ≠ a → (H.setIfInBounds a (vp_cell c1 (n1, .inl (va_cpy f g sp.toNatClampNeg dp.toNatClampNeg n.toNatClampNeg))))[q]? = H[q]? := fun q hq => by simp [Array.getElem?_setIfInBounds, Ne.symm hq]
  obtain ⟨t, a1, b1⟩ := kk _ _ (hP.set hD ha1 (show (H.setIfInBounds a _)[a]? = some _ by simp [Array.getElem?_setIfInBounds, hl]) oq) (hD.set ha1) ⟨by simp; exact hS.1, fun q g1 g2 => by
      rw [oq q (fun e => g2 (by rw [e]; exact hD.2 q1 _ ha1))]
      exact hS.2.1 q g1 g2, fun q hq => by
      rcases List.mem_append.mp hq with h | h
      · exact hS.2.2 q h
      · obtain ⟨z, -, hz⟩ := List.mem_map.mp h
        rw [← hz]
        exact hD.2 q1 _ ha1⟩ _ hheap X'
  exact ⟨t, step t a1, b1⟩
end Rows32c
section Rows32
end Rows32
