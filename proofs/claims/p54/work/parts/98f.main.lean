/-! ===== the law's start ===== -/
theorem whole_start {p : Program} {e : Env} {s : State} {m : MethodId} {below : List Frame} {meth : Method} {c : Code} (l : Launch) (hflags : l.flags = flags0) {b L : Nat} {xs : Nat → Int32} (hL : L ≤ 260) (C0 : lw_At p s m meth c b L xs) : W p l e room_1 s m #[Value.ref b] below meth c s.heap [] 0 0 (lw_Z below #[Value.ref b] s) (entryFrame m ([Value.ref b] : List Value).toArray 5) := by
  obtain ⟨hx, hb0, hret, hml, hown, hts0, hX, hbl, hlocks, hgv⟩ := C0
  have hlf : l.stackTraces = false := by unfold Launch.stackTraces; rw [hflags]; decide +kernel
  obtain ⟨A, hA, hA0, hAS⟩ : ∃ A : Nat → Prop, (∀ q : Nat, s.heap.size ≤ q → A q) ∧ (∀ a : Nat, a < s.heap.size → ¬ A a) ∧ (∀ q : Nat, A q → s.heap.size ≤ q) := ⟨fun q => s.heap.size ≤ q, fun _ h => h, fun a h1 h2 => absurd h1 (Nat.not_lt.mpr h2), fun _ h => h⟩
  obtain ⟨G, hK, hST, hG⟩ := st_ST hX (by omega) hts0 hgv hA0
  subst hG
  have hts : ∀ w ∈ UW, w.before #[Value.ref (scB G)] s = true := fun w hw => hts0 w (uw_tbl hw)
  have hb : c.code = cL_law := hb0
  have hown : s.vm.findClass RL = some m.cls := hown
  have fin : ∀ (H : Heap) (locs : List Loc) (ls : Array Slot), va_S A s.heap H locs → W p l e room_1 s m #[Value.ref (scB G)] below meth c H locs 600258 7291722 (lw_Z below #[Value.ref (scB G)] s) (F0 m 269 ls [.int 1]) := by
    intro H locs ls hS
    refine va_forget (fun q hq => hAS _ (hS.2.2 q hq)) ?_
    exact W.base (lw_ret (d0 := s.drawn) (Drawn.sameBut.refl s.drawn lw_cs) hx hb0 hret hlocks dL_law_269)
  have hl := lv_entry ([.ref (scB G)]) (n := 5) (Nat.le_of_ble_eq_true rfl)
  rw [lg_entry_eq]
  generalize (lg_sl ([.ref (scB G)]) ++ List.replicate (5 - (lg_sl ([.ref (scB G)])).length) Slot.unset).toArray = ls at hl ⊢
  have hl : lv_has ls 5 [(0, .ref (scB G))] := hl
  exact w_law l hlf G A hx hb hml hown hts hK hST hA (law_ok hST.scr.2) hl fin
