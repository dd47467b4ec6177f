abbrev McV : Type := Int32 × Int32 × Int32
abbrev PrV : Type := Int32 × Int32 × Int32 × Int32
/-! ===== throws, and calls of methods that throw ===== -/
theorem at_of {args : Array Value} {s : State} {L : List Cond} (h : ∀ w ∈ L, w ∈ lw_tbl ∧ (goodWord w || isCastW w) = true) (hts : ∀ w ∈ UW, w.before args s = true) (hcw : ∀ w ∈ CW, w.before #[] s = true) : ∀ w ∈ L, w.before args s = true := by
  intro w hw
  obtain ⟨h1, h2⟩ := h w hw
  rcases (Bool.or_eq_true _ _).mp h2 with h3 | h3
  · exact hts w (List.mem_filter.mpr ⟨h1, h3⟩)
  · have h4 := hcw w (List.mem_filter.mpr ⟨h1, h3⟩)
    cases w <;> simp only [isCastW] at h3 <;> first | (exact absurd h3 (by decide)) | exact va_tabs rfl rfl h4 | exact h4
theorem STv.str {G : GG} {A : Nat → Prop} {U : State} {H : Heap} (h : STv G A U H) {own : String} {k : Nat} {tx : String} {j : Nat} (hm : (own, k, tx, j) ∈ strT) : vk_R own k tx (G.2.2.1 (10 + j)) U := h.2.2.2.2.2.1 _ hm
section Rows30
variable {p : Program} {l : Launch} {e : Env} {R : Room} {s : State} {m : MethodId} {args : Array Value} {below : List Frame} {meth : Method} {c : Code} {H : Heap} {locs : List Loc} {cells slots : Nat} {Q : State → Prop} {cc : ByteArray} {pc : Nat} {ls : Array Slot}
theorem va_F_of {s t : State} {H : Heap} (hH : H = s.heap) (h1 : H.size ≤ t.heap.size) (h2 : ∀ q : Nat, q < H.size → t.heap[q]? = H[q]?) : va_F (fun _ => False) s t := by
  subst hH
  exact ⟨h1, fun q hq _ => h2 q hq⟩
theorem xr_throwS {Qc : Array Value → State → Outcome → State → Prop} {okx : String → Prop} {G : GG} {A : Nat → Prop} {own cls text : String} {ik is ic mc ms j nL : Nat} {free : Addr → Prop} {rest : List Value} (hl9 : l.stackTraces = false) (S : CallFix p m c cc nL s args UW own) (hST : ST G A s) (hlk : meth.locks = false) (hxt : ∀ x ∈ c.exceptionTable.toList, False) (hcls : Bundle.fit cls = true)
    (hk : Cond.classLink own ik cls ∈ UW) (hini : Cond.initialized cls ∈ UW) (hm : (own, is, text, j) ∈ strT) (hat : ∀ w ∈ vx_atS own ic cls ["java/lang/RuntimeException", "java/lang/Exception"], w ∈ lw_tbl ∧ (goodWord w || isCastW w) = true) (hg : ∀ w ∈ Cond.classLink own ik cls :: Cond.initialized cls :: vx_atS own ic cls ["java/lang/RuntimeException", "java/lang/Exception"], vx_ot w = true)
    (hsize : ls.size = nL) (d0 : decode cc pc = .ok (.new ik, 3)) (d3 : decode cc (pc + 3) = .ok (.dup, 1)) (d4 : decode cc (pc + 4) = .ok (.ldc is, 2)) (d6 : decode cc (pc + 6) = .ok (.invokespecial ic, 3)) (d9 : decode cc (pc + 9) = .ok (.athrow, 1))
    (hR : 5 < R.frames ∧ (rest.map fun v => v.category).sum + 82 ≤ R.locals) (hC : cells + 1 ≤ R.cells ∧ slots + 6 ≤ R.slots) (hx : okx cls) (hc : cells + 1 ≤ mc) (hs : slots + 6 ≤ ms) :
    W p l e R s m args below meth c s.heap [] cells slots (vx_MQ below Qc (xR okx) args s mc ms free) (F0 m pc ls rest) := by
  obtain ⟨hx0, hb, hml, hown, hts⟩ := S
  exact vx_throwS hx0 hb hl9 hown hcls (by decide +kernel) (hts _ hk) (hts _ hini) (hST.str hm) (at_of hat hts hST.2.2.2.2.2.2.2.1) hg hST.2.2.1 hST.2.2.2.1 (va_S.rf (A := A)) (hsize.trans hml.symm) d0 d3 d4 d6 d9 (fun x h => (hxt x h).elim) (by simpa using hR.1) (by simpa using hR.2) hC.1 hC.2 hlk
    (fun t _ h1 h2 => ⟨hx, va_F_of rfl h1 h2⟩) (fun z hz => nomatch hz) hc hs
theorem xr_throwSW {Qc : Array Value → State → Outcome → State → Prop} {okx : String → Prop} {G : GG} {A : Nat → Prop} {own cls text : String} {ik is ic mc ms j nL : Nat} {free : Addr → Prop} {rest : List Value} (hl9 : l.stackTraces = false) (S : CallFix p m c cc nL s args UW own) (hST : ST G A s) (hlk : meth.locks = false) (hxt : ∀ x ∈ c.exceptionTable.toList, False) (hcls : Bundle.fit cls = true)
    (hk : Cond.classLink own ik cls ∈ UW) (hini : Cond.initialized cls ∈ UW) (hm : (own, is, text, j) ∈ strT) (hat : ∀ w ∈ vx_atS own ic cls ["java/lang/RuntimeException", "java/lang/Exception"], w ∈ lw_tbl ∧ (goodWord w || isCastW w) = true) (hg : ∀ w ∈ Cond.classLink own ik cls :: Cond.initialized cls :: vx_atS own ic cls ["java/lang/RuntimeException", "java/lang/Exception"], vx_ot w = true)
    (hsize : ls.size = nL) (d0 : decode cc pc = .ok (.new ik, 3)) (d3 : decode cc (pc + 3) = .ok (.dup, 1)) (d4 : decode cc (pc + 4) = .ok (.ldc_w is, 3)) (d6 : decode cc (pc + 7) = .ok (.invokespecial ic, 3)) (d9 : decode cc (pc + 10) = .ok (.athrow, 1))
    (hR : 5 < R.frames ∧ (rest.map fun v => v.category).sum + 82 ≤ R.locals) (hC : cells + 1 ≤ R.cells ∧ slots + 6 ≤ R.slots) (hx : okx cls) (hc : cells + 1 ≤ mc) (hs : slots + 6 ≤ ms) :
    W p l e R s m args below meth c s.heap [] cells slots (vx_MQ below Qc (xR okx) args s mc ms free) (F0 m pc ls rest) := by
  obtain ⟨hx0, hb, hml, hown, hts⟩ := S
  exact vx_throwSW hx0 hb hl9 hown hcls (by decide +kernel) (hts _ hk) (hts _ hini) (hST.str hm) (at_of hat hts hST.2.2.2.2.2.2.2.1) hg hST.2.2.1 hST.2.2.2.1 (va_S.rf (A := A)) (hsize.trans hml.symm) d0 d3 d4 d6 d9 (fun x h => (hxt x h).elim) (by simpa using hR.1) (by simpa using hR.2) hC.1 hC.2 hlk
    (fun t _ h1 h2 => ⟨hx, va_F_of rfl h1 h2⟩) (fun z hz => nomatch hz) hc hs
theorem xr_throwN {Qc : Array Value → State → Outcome → State → Prop} {okx : String → Prop} {G : GG} {A : Nat → Prop} {own cls text : String} {ik is ic mc ms j nL : Nat} {free : Addr → Prop} {rest : List Value} (hl9 : l.stackTraces = false) (S : CallFix p m c cc nL s args UW own) (hST : ST G A s) (hlk : meth.locks = false) (hxt : ∀ x ∈ c.exceptionTable.toList, False) (hcls : Bundle.fit cls = true)
    (hk : Cond.classLink own ik cls ∈ UW) (hini : Cond.initialized cls ∈ UW) (hm : (own, is, text, j) ∈ strT) (hat : ∀ w ∈ nse_at own ic cls "java/lang/RuntimeException" ["java/lang/Exception"], w ∈ lw_tbl ∧ (goodWord w || isCastW w) = true) (hg : ∀ w ∈ Cond.classLink own ik cls :: Cond.initialized cls :: nse_at own ic cls "java/lang/RuntimeException" ["java/lang/Exception"], vx_ot w = true)
    (hsize : ls.size = nL) (d0 : decode cc pc = .ok (.new ik, 3)) (d3 : decode cc (pc + 3) = .ok (.dup, 1)) (d4 : decode cc (pc + 4) = .ok (.ldc is, 2)) (d6 : decode cc (pc + 6) = .ok (.invokespecial ic, 3)) (d9 : decode cc (pc + 9) = .ok (.athrow, 1))
    (hR : 5 < R.frames ∧ (rest.map fun v => v.category).sum + 82 ≤ R.locals) (hC : cells + 1 ≤ R.cells ∧ slots + 6 ≤ R.slots) (hx : okx cls) (hc : cells + 1 ≤ mc) (hs : slots + 6 ≤ ms) :
    W p l e R s m args below meth c s.heap [] cells slots (vx_MQ below Qc (xR okx) args s mc ms free) (F0 m pc ls rest) := by
  obtain ⟨hx0, hb, hml, hown, hts⟩ := S
  exact nse_throwS hx0 hb hl9 hown hcls (by decide +kernel) (hts _ hk) (hts _ hini) (hST.str hm) (at_of hat hts hST.2.2.2.2.2.2.2.1) hg hST.2.2.1 hST.2.2.2.1 (va_S.rf (A := A)) (hsize.trans hml.symm) d0 d3 d4 d6 d9 (fun x h => (hxt x h).elim) (by simpa using hR.1) (by simpa using hR.2) hC.1 hC.2 hlk
    (fun t _ h1 h2 => ⟨hx, va_F_of rfl h1 h2⟩) (fun z hz => nomatch hz) hc hs
theorem xr_throwNW {Qc : Array Value → State → Outcome → State → Prop} {okx : String → Prop} {G : GG} {A : Nat → Prop} {own cls text : String} {ik is ic mc ms j nL : Nat} {free : Addr → Prop} {rest : List Value} (hl9 : l.stackTraces = false) (S : CallFix p m c cc nL s args UW own) (hST : ST G A s) (hlk : meth.locks = false) (hxt : ∀ x ∈ c.exceptionTable.toList, False) (hcls : Bundle.fit cls = true)
    (hk : Cond.classLink own ik cls ∈ UW) (hini : Cond.initialized cls ∈ UW) (hm : (own, is, text, j) ∈ strT) (hat : ∀ w ∈ nse_at own ic cls "java/lang/RuntimeException" ["java/lang/Exception"], w ∈ lw_tbl ∧ (goodWord w || isCastW w) = true) (hg : ∀ w ∈ Cond.classLink own ik cls :: Cond.initialized cls :: nse_at own ic cls "java/lang/RuntimeException" ["java/lang/Exception"], vx_ot w = true)
    (hsize : ls.size = nL) (d0 : decode cc pc = .ok (.new ik, 3)) (d3 : decode cc (pc + 3) = .ok (.dup, 1)) (d4 : decode cc (pc + 4) = .ok (.ldc_w is, 3)) (d6 : decode cc (pc + 7) = .ok (.invokespecial ic, 3)) (d9 : decode cc (pc + 10) = .ok (.athrow, 1))
    (hR : 5 < R.frames ∧ (rest.map fun v => v.category).sum + 82 ≤ R.locals) (hC : cells + 1 ≤ R.cells ∧ slots + 6 ≤ R.slots) (hx : okx cls) (hc : cells + 1 ≤ mc) (hs : slots + 6 ≤ ms) :
    W p l e R s m args below meth c s.heap [] cells slots (vx_MQ below Qc (xR okx) args s mc ms free) (F0 m pc ls rest) := by
  obtain ⟨hx0, hb, hml, hown, hts⟩ := S
  exact nse_throwSW hx0 hb hl9 hown hcls (by decide +kernel) (hts _ hk) (hts _ hini) (hST.str hm) (at_of hat hts hST.2.2.2.2.2.2.2.1) hg hST.2.2.1 hST.2.2.2.1 (va_S.rf (A := A)) (hsize.trans hml.symm) d0 d3 d4 d6 d9 (fun x h => (hxt x h).elim) (by simpa using hR.1) (by simpa using hR.2) hC.1 hC.2 hlk
    (fun t _ h1 h2 => ⟨hx, va_F_of rfl h1 h2⟩) (fun z hz => nomatch hz) hc hs
/-- a throw out of a call, thrown on: nothing was changed yet -/
theorem xr_out {Qc : Array Value → State → Outcome → State → Prop} {okx : String → Prop} {E : String} {ce : Cell} {q : Addr} {mc ms : Nat} {free : Addr → Prop} {rest : List Value} {H1 : Heap} {locs1 : List Loc} (hxt : ∀ x ∈ c.exceptionTable.toList, False) (hlk : meth.locks = false) (hcell : H1[q]? = some ce) (hv : ce.vm = .none) (hcl : s.vm.findClass E = some ce.cls)
    (h1 : s.heap.size ≤ H1.size) (h2 : ∀ q : Nat, q < s.heap.size → H1[q]? = s.heap[q]?) (hlo : locs1 = []) (hx : okx E) (hc : cells ≤ mc) (hs : slots ≤ ms) :
    vx_W p l e R s m args below meth c H1 locs1 cells slots (vx_MQ below Qc (xR okx) args s mc ms free) (F0 m pc ls rest) q := by
  subst hlo
  exact vx_out (fun x h => (hxt x h).elim) hlk hcell hv hcl (fun t ht _ => ⟨hx, by rw [ht]; exact h1, fun q hq _ => by rw [ht]; exact h2 q hq⟩) (fun z hz => nomatch hz) hc hs
/-- a call that may throw and leaves old cells as they are -/
theorem xr_go {v : Option Value} {ex : Prop} {okx : String → Prop} {mc ms : Nat} {rest st0 st1 : List Value} {a : Array Value} (hr : vx_Run p l e R s m args below meth c H locs cells slots mc ms (F0 m pc ls st0) rest (rQ v ex a) (xR okx) (fun _ => False)) (h1 : v.toList ++ rest = st1)
    (kx : ∀ (E : String) (ce : Cell) (q9 : Addr) (H1 : Heap), okx E → H.size ≤ H1.size → (∀ q : Nat, q < H.size → H1[q]? = H[q]?) → H1[q9]? = some ce → ce.vm = .none → s.vm.findClass E = some ce.cls → vx_W p l e R s m args below meth c H1 locs (cells + mc) (slots + ms) Q (F0 m pc ls rest) q9)
    (kk : ex → W p l e R s m args below meth c H locs (cells + mc) (slots + ms) Q (F0 m (pc + 3) ls st1)) : W p l e R s m args below meth c H locs cells slots Q (F0 m pc ls st0) := by
  intro T hT X
  have nil : ∀ {L : List Loc}, (∀ q ∈ L, (fun _ : Addr => False) q.base) → L = [] := fun {L} h => by
    cases L with
    | nil => rfl
    | cons a r => exact absurd (h a List.mem_cons_self) id
  rcases hr T hT X with ⟨v', st₀, t, T', L, h0, X', hL, e1, e2, ⟨hv, hex, hh⟩, st⟩ | ⟨q, st₀, t, T', L, E, ce, h0, X', hL, e1, e2, ⟨hok, hF1, hF2⟩, hce, hcv, hcl, st⟩
  · cases hv
    have hL0 := nil hL
    subst hL0
    rw [List.append_nil] at X'
    subst h1
    obtain ⟨t2, a1, b1⟩ := kk hex T' (by rw [e1, hh, h0]) X'
    exact ⟨t2, st t2 a1, b1⟩
  · have hL0 := nil hL
    subst hL0
    rw [List.append_nil] at X'
    rw [h0] at hF1 hF2
    obtain ⟨t2, a1, b1⟩ := kx E ce q t.heap hok hF1 (fun q hq => hF2 q hq id) hce hcv hcl T' e1 X'
    exact ⟨t2, st.trans a1, b1⟩
theorem xr_V {own C : String} {y : MethodName} {b : ByteArray} {mL nL n index d mc ms ci k0 : Nat} {ret : Option FieldType} {G : GG} {A : Nat → Prop} {ws wc : va_W} {ba : Addr} {As rest st0 st1 : List Value} {v : Option Value} {ex : Prop} {okx : String → Prop} {fs : List Value} {q : vw_C}
    (hM : xrMet l y b mL ret d mc ms G wc (.ref ba :: As) v ex okx) (S : CallFix p m c cc nL s args UW own) (g : GoodIn UW (wsV own index C y (wsU y b mL ret))) (hd : y.cls = C ∧ y.cls ≠ "java/lang/invoke/MethodHandle" ∧ y.cls ≠ "java/lang/invoke/VarHandle" ∧ (parseMethodDescriptor y.desc).map (fun d => d.parameters.length) = some n)
    (hK : KK G s) (hST : ST G A s) (hS : va_S A s.heap H locs) (hP : va_P G.1 vwCl ws H) (isC : List Nat) (hC : isC.filterMap (fun i => ws[i]?) = wc) (hrv : wc[k0]? = some (ba, .inr (ci, fs))) (hc : vwCl[ci]? = some q) (hqC : q.1 = C)
    (hR : d + 1 ≤ R.frames ∧ 8 + (mL + 11) + 40 * d ≤ R.locals) (hf : cells + mc ≤ R.cells ∧ slots + ms ≤ R.slots) (hn : As.length = n) (hsize : ls.size = nL) (hst : st0 = As.reverse ++ .ref ba :: rest) (hcat : (rest.map fun v => v.category).sum ≤ 8) (hdg : decode cc pc = .ok (.invokevirtual index, 3)) (h1 : v.toList ++ rest = st1)
    (kx : ∀ (E : String) (ce : Cell) (q9 : Addr) (H1 : Heap), okx E → H.size ≤ H1.size → (∀ q : Nat, q < H.size → H1[q]? = H[q]?) → H1[q9]? = some ce → ce.vm = .none → s.vm.findClass E = some ce.cls → vx_W p l e R s m args below meth c H1 locs (cells + mc) (slots + ms) Q (F0 m pc ls rest) q9)
    (kk : ex → W p l e R s m args below meth c H locs (cells + mc) (slots + ms) Q (F0 m (pc + 3) ls st1)) : W p l e R s m args below meth c H locs cells slots Q (F0 m pc ls st0) := by
  have hPc := hP.sub isC hC
  exact xr_go (vx_runV S hM (cwV n S.2.2.2.2 g rfl rfl rfl hd hR) ⟨rPc_blind, by subst hqC; exact va_recv hK hPc hc hrv, fun U hU hW => ⟨rfl, by rw [hU]; exact hPc, va_K.moved hW.alike hK, hST.go hS (fun _ h => h.elim) hW hU⟩⟩ rfl hn hsize hst (lv_room hcat) hdg hf) h1 kx kk
theorem xr_S {own : String} {y : MethodName} {b : ByteArray} {mL nL n index d mc ms : Nat} {ret : Option FieldType} {G : GG} {A : Nat → Prop} {ws wc : va_W} {As rest st0 st1 : List Value} {v : Option Value} {ex : Prop} {okx : String → Prop}
    (hM : xrMet l y b mL ret d mc ms G wc As v ex okx) (S : CallFix p m c cc nL s args UW own) (g : GoodIn UW (va_wsS own index y (wsU y b mL ret))) (hd : y.cls ≠ "java/lang/invoke/MethodHandle" ∧ y.cls ≠ "java/lang/invoke/VarHandle" ∧ (parseMethodDescriptor y.desc).map (fun d => d.parameters.length) = some n)
    (hK : KK G s) (hST : ST G A s) (hS : va_S A s.heap H locs) (hP : va_P G.1 vwCl ws H) (isC : List Nat) (hC : isC.filterMap (fun i => ws[i]?) = wc)
    (hR : d + 1 ≤ R.frames ∧ 8 + (mL + 11) + 40 * d ≤ R.locals) (hf : cells + mc ≤ R.cells ∧ slots + ms ≤ R.slots) (hn : As.length = n) (hsize : ls.size = nL) (hst : st0 = As.reverse ++ rest) (hcat : (rest.map fun v => v.category).sum ≤ 8) (hdg : decode cc pc = .ok (.invokestatic index, 3)) (h1 : v.toList ++ rest = st1)
    (kx : ∀ (E : String) (ce : Cell) (q9 : Addr) (H1 : Heap), okx E → H.size ≤ H1.size → (∀ q : Nat, q < H.size → H1[q]? = H[q]?) → H1[q9]? = some ce → ce.vm = .none → s.vm.findClass E = some ce.cls → vx_W p l e R s m args below meth c H1 locs (cells + mc) (slots + ms) Q (F0 m pc ls rest) q9)
    (kk : ex → W p l e R s m args below meth c H locs (cells + mc) (slots + ms) Q (F0 m (pc + 3) ls st1)) : W p l e R s m args below meth c H locs cells slots Q (F0 m pc ls st0) := by
  have hPc := hP.sub isC hC
  exact xr_go (vx_runS S hM (va_cwS n S.2.2.2.2 g rfl rfl rfl hd hR) ⟨rPc_blind, fun U hU hW => ⟨rfl, by rw [hU]; exact hPc, va_K.moved hW.alike hK, hST.go hS (fun _ h => h.elim) hW hU⟩⟩ rfl hn hsize hst (lv_room hcat) hdg hf) h1 kx kk
end Rows30
