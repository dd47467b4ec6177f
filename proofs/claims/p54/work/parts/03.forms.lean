/-! ===== worlds of blocks ===== -/
theorem vP_mem {D : va_G} {cl : List vw_C} {ws : va_W} {H : Heap} : va_P D cl ws H ↔ ∀ q ∈ ws, va_at D cl q H :=
  ⟨fun h q hq => by obtain ⟨k, hk⟩ := List.getElem?_of_mem hq; exact h k q hk, fun h k q hk => h q (List.mem_of_getElem? hk)⟩
abbrev fl (bs : List va_W) : va_W := bs.flatten
theorem fl_mem {bs : List va_W} {q : Nat × va_E} : q ∈ fl bs ↔ ∃ (i : Nat) (b : va_W), bs[i]? = some b ∧ q ∈ b := by
  constructor
  · intro h
    obtain ⟨b, hb, hq⟩ := List.mem_flatten.mp h
    obtain ⟨i, hi⟩ := List.getElem?_of_mem hb
    exact ⟨i, b, hi, hq⟩
  · rintro ⟨i, b, hi, hq⟩
    exact List.mem_flatten.mpr ⟨b, List.mem_of_getElem? hi, hq⟩
theorem fl_pick {bs cs : List va_W} {is : List Nat} (h : is.map (fun i => bs[i]?) = cs.map some) {j : Nat} {b : va_W} (hj : cs[j]? = some b) : ∃ i, is[j]? = some i ∧ bs[i]? = some b := by
  have h1 : (is.map (fun i => bs[i]?))[j]? = some (some b) := by rw [h, List.getElem?_map, hj]; rfl
  rw [List.getElem?_map] at h1
  cases hi : is[j]? with
  | none => rw [hi] at h1; cases h1
  | some i => rw [hi] at h1; exact ⟨i, rfl, Option.some.inj h1⟩
theorem fl_sub {D : va_G} {cl : List vw_C} {H : Heap} {bs cs : List va_W} (is : List Nat) (h : is.map (fun i => bs[i]?) = cs.map some) (hP : va_P D cl (fl bs) H) : va_P D cl (fl cs) H := by
  rw [vP_mem] at hP ⊢
  intro q hq
  obtain ⟨j, b, hj, hq⟩ := fl_mem.mp hq
  obtain ⟨i, -, hi⟩ := fl_pick h hj
  exact hP q (fl_mem.mpr ⟨i, b, hi, hq⟩)
def wne (p q : Nat × va_E) : Prop := p.1 ≠ q.1
theorem vD_iff {A : Nat → Prop} {ws : va_W} : va_D A ws ↔ ws.Pairwise wne ∧ ∀ q ∈ ws, A q.1 := by
  constructor
  · rintro ⟨h1, h2⟩
    refine ⟨List.pairwise_iff_getElem.mpr fun i j hi hj hij e => ?_, fun q hq => ?_⟩
    · have := h1 i j ws[i] ws[j] (List.getElem?_eq_getElem hi) (List.getElem?_eq_getElem hj) e
      omega
    · obtain ⟨k, hk⟩ := List.getElem?_of_mem hq
      exact h2 k q hk
  · rintro ⟨h1, h2⟩
    refine ⟨fun i j p q hi hj e => ?_, fun k q hk => h2 q (List.mem_of_getElem? hk)⟩
    obtain ⟨li, ei⟩ := List.getElem?_eq_some_iff.mp hi
    obtain ⟨lj, ej⟩ := List.getElem?_eq_some_iff.mp hj
    have h3 := List.pairwise_iff_getElem.mp h1
    rcases Nat.lt_trichotomy i j with h | h | h
    · exact absurd (by rw [ei, ej]; exact e) (h3 i j li lj h)
    · exact h
    · exact absurd (by rw [ei, ej]; exact e.symm) (h3 j i lj li h)
theorem fl_Dx {A : Nat → Prop} {bs : List va_W} : va_D A (fl bs) ↔ (∀ (i : Nat) (b : va_W), bs[i]? = some b → va_D A b) ∧ ∀ (i j : Nat) (b c : va_W), bs[i]? = some b → bs[j]? = some c → i ≠ j → ∀ p ∈ b, ∀ q ∈ c, p.1 ≠ q.1 := by
  rw [vD_iff, List.pairwise_flatten]
  constructor
  · rintro ⟨⟨h1, h2⟩, h3⟩
    refine ⟨fun i b hi => vD_iff.mpr ⟨h1 b (List.mem_of_getElem? hi), fun q hq => h3 q (fl_mem.mpr ⟨i, b, hi, hq⟩)⟩, fun i j b c hi hj hij p hp q hq => ?_⟩
    obtain ⟨li, ei⟩ := List.getElem?_eq_some_iff.mp hi
    obtain ⟨lj, ej⟩ := List.getElem?_eq_some_iff.mp hj
    have h4 := List.pairwise_iff_getElem.mp h2
    rcases Nat.lt_or_gt_of_ne hij with h | h
    · exact h4 i j li lj h p (ei ▸ hp) q (ej ▸ hq)
    · exact fun e => h4 j i lj li h q (ej ▸ hq) p (ei ▸ hp) e.symm
  · rintro ⟨h1, h2⟩
    refine ⟨⟨fun b hb => ?_, List.pairwise_iff_getElem.mpr fun i j hi hj hij p hp q hq => h2 i j _ _ (List.getElem?_eq_getElem hi) (List.getElem?_eq_getElem hj) (by omega) p hp q hq⟩, fun q hq => ?_⟩
    · obtain ⟨i, hi⟩ := List.getElem?_of_mem hb
      exact (vD_iff.mp (h1 i b hi)).1
    · obtain ⟨i, b, hi, hq⟩ := fl_mem.mp hq
      exact (vD_iff.mp (h1 i b hi)).2 q hq
theorem fl_subD {A : Nat → Prop} {bs cs : List va_W} (is : List Nat) (hn : va_nd is = true) (h : is.map (fun i => bs[i]?) = cs.map some) (hD : va_D A (fl bs)) : va_D A (fl cs) := by
  obtain ⟨h1, h2⟩ := fl_Dx.mp hD
  refine fl_Dx.mpr ⟨fun j b hj => ?_, fun i j b c hi hj hij p hp q hq => ?_⟩
  · obtain ⟨i, -, hi⟩ := fl_pick h hj
    exact h1 i b hi
  · obtain ⟨i', g1, g2⟩ := fl_pick h hi
    obtain ⟨j', g3, g4⟩ := fl_pick h hj
    exact h2 i' j' b c g2 g4 (fun e => hij (va_nd_inj is hn i j i' g1 (e ▸ g3))) p hp q hq
theorem fl_A {ws : va_W} {sz q : Nat} : va_A ws sz q ↔ (∃ p ∈ ws, p.1 = q) ∨ sz ≤ q := by
  constructor
  · rintro (⟨k, e, h⟩ | h)
    · exact Or.inl ⟨(q, e), List.mem_of_getElem? h, rfl⟩
    · exact Or.inr h
  · rintro (⟨⟨a, e⟩, h, rfl⟩ | h)
    · obtain ⟨k, hk⟩ := List.getElem?_of_mem h
      exact Or.inl ⟨k, e, hk⟩
    · exact Or.inr h
theorem fl_free {A0 : Nat → Prop} {bs cs : List va_W} {H0 H : Heap} {locs : List Loc} (hD : va_D A0 (fl bs)) (hS : va_S A0 H0 H locs) (hA : ∀ q, H0.size ≤ q → A0 q) (isC : List Nat) (hC : isC.map (fun i => bs[i]?) = cs.map some) : ∀ q, va_A (fl cs) H.size q → A0 q := by
  intro q hq
  rcases fl_A.mp hq with ⟨p, hp, rfl⟩ | h
  · obtain ⟨j, b, hj, hp⟩ := fl_mem.mp hp
    obtain ⟨i, -, hi⟩ := fl_pick hC hj
    exact (vD_iff.mp hD).2 p (fl_mem.mpr ⟨i, b, hi, hp⟩)
  · exact hA q (Nat.le_trans hS.1 h)
theorem nd_app : ∀ {a b : List Nat}, va_nd (a ++ b) = true → va_nd a = true ∧ va_nd b = true ∧ ∀ x ∈ b, x ∉ a
  | [], b, h => ⟨rfl, h, fun _ _ h => nomatch h⟩
  | x :: a, b, h => by
    simp only [List.cons_append, va_nd, Bool.and_eq_true, decide_eq_true_eq] at h ⊢
    obtain ⟨h1, h2, h3⟩ := nd_app h.2
    refine ⟨⟨fun hx => h.1 (List.mem_append_left _ hx), h1⟩, h2, fun y hy hya => ?_⟩
    rcases List.mem_cons.mp hya with e | e
    · exact h.1 (List.mem_append_right _ (e ▸ hy))
    · exact h3 y hy e
theorem fl_join {A0 : Nat → Prop} {D : va_G} {cl : List vw_C} {bs cs rs c1 : List va_W} {H H1 : Heap} (hP : va_P D cl (fl bs) H) (hD : va_D A0 (fl bs)) (isC isR : List Nat) (hC : isC.map (fun i => bs[i]?) = cs.map some) (hR : isR.map (fun i => bs[i]?) = rs.map some) (hn : va_nd (isC ++ isR) = true)
    (hk : ∀ q : Nat, q < H.size → ¬ va_A (fl cs) H.size q → H1[q]? = H[q]?) (hF : ∀ q, va_A (fl cs) H.size q → A0 q) (hP1 : va_P D cl (fl c1) H1) (hD1 : va_D (va_A (fl cs) H.size) (fl c1)) : va_P D cl (fl (c1 ++ rs)) H1 ∧ va_D A0 (fl (c1 ++ rs)) := by
  obtain ⟨n1, n2, n3⟩ := nd_app hn
  have apart : ∀ q ∈ fl rs, q.1 < H.size ∧ ¬ va_A (fl cs) H.size q.1 := by
    intro q hq
    obtain ⟨j, b, hj, hq⟩ := fl_mem.mp hq
    obtain ⟨i, g1, g2⟩ := fl_pick hR hj
    have hl : q.1 < H.size := (vP_mem.mp hP q (fl_mem.mpr ⟨i, b, g2, hq⟩)).lt
    refine ⟨hl, fun h => ?_⟩
    rcases fl_A.mp h with ⟨p, hp, e⟩ | h
    · obtain ⟨j2, b2, hj2, hp⟩ := fl_mem.mp hp
      obtain ⟨i2, g3, g4⟩ := fl_pick hC hj2
      exact (fl_Dx.mp hD).2 i2 i b2 b g4 g2 (fun e2 => n3 i (List.mem_of_getElem? g1) (e2 ▸ List.mem_of_getElem? g3)) p hp q hq e
    · omega
  have e : fl (c1 ++ rs) = fl c1 ++ fl rs := List.flatten_append
  rw [e]
  refine ⟨?_, ?_⟩
  · rw [vP_mem]
    intro q hq
    rcases List.mem_append.mp hq with h | h
    · exact vP_mem.mp hP1 q h
    · obtain ⟨g1, g2⟩ := apart q h
      exact (vP_mem.mp (fl_sub isR hR hP) q h).kept (hk q.1 g1 g2)
  · have hr := fl_subD isR n2 hR hD
    rw [vD_iff] at hr hD1 ⊢
    refine ⟨List.pairwise_append.mpr ⟨hD1.1, hr.1, fun p hp q hq e => ?_⟩, fun q hq => ?_⟩
    · exact (apart q hq).2 (e ▸ hD1.2 p hp)
    · rcases List.mem_append.mp hq with h | h
      · exact hF _ (hD1.2 q h)
      · exact hr.2 q h
/-! ===== what is known of statics and constants ===== -/
def STv (G : GG) (A : Nat → Prop) (U : State) (H : Heap) : Prop :=
  (∀ k, k < 6 → va_Z RX3 (fnm k) "LMoonlitDoors$Fault;" (.ref (G.2.2.1 k)) A U H) ∧ (∀ i j, i < 6 → j < 6 → G.2.2.1 i = G.2.2.1 j → i = j) ∧
  vx_Zq Bundle.tN "UNASSIGNED_STACK" Bundle.steD A U H ∧ vx_Zq Bundle.tN "SUPPRESSED_SENTINEL" Bundle.listD A U H ∧ va_Z "java/lang/String" "COMPACT_STRINGS" "Z" (.int 1) A U H ∧
  (∀ q ∈ strT, vk_R q.1 q.2.1 q.2.2.1 (G.2.2.1 (10 + q.2.2.2)) U) ∧
  (∀ j, sOK j → va_O "java/lang/String" (G.2.2.1 (10 + j)) A U H ∧ va_OF "java/lang/String" "coder" "B" (.int 0) (G.2.2.1 (10 + j)) A U H ∧ va_OF "java/lang/String" "value" "[B" (.ref (G.2.2.2 j)) (G.2.2.1 (10 + j)) A U H ∧ va_T .byte (G.2.2.2 j) (strL.getD j []).length (fun i => .int (nI ((strL.getD j []).getD i 0))) A U H) ∧
  (∀ w ∈ CW, w.before #[] U = true) ∧ (∀ q ∈ NC, va_Nc q.1 q.2 U) ∧ (∀ w ∈ MW, w.before #[] U = true) ∧
  va_Z "java/lang/Integer" "DigitOnes" "[B" (.ref (G.2.2.2 100)) A U H ∧ va_T .byte (G.2.2.2 100) 100 (fun j => .int (nI (48 + j % 10))) A U H ∧ va_Z "java/lang/Integer" "DigitTens" "[B" (.ref (G.2.2.2 101)) A U H ∧ va_T .byte (G.2.2.2 101) 100 (fun j => .int (nI (48 + j / 10))) A U H ∧
  va_Zq "jdk/internal/util/Preconditions" "SIOOBE_FORMATTER" "Ljava/util/function/BiFunction;" A U H ∧
  (va_T .int (scB G) (scL G) (fun i => .int (scX G i)) A U H ∧ scL G < 2 ^ 31)
abbrev ST (G : GG) (A : Nat → Prop) (U : State) : Prop := STv G A U U.heap
theorem cw_warm {s U : State} (hvm : s.vm.Alike U.vm) {w : Cond} (hw : w ∈ CW) (h : w.before #[] s = true) : w.before #[] U = true := by
  have h1 := (List.mem_filter.mp hw).2
  cases w <;> simp only [isCastW] at h1 <;> try (exact absurd h1 (by decide))
  all_goals first
  | (rename_i x
     have h2 : (Cond.declares x).before #[] (s.setVm U.vm) = true := by rw [Cond.declares_setVm hvm]; exact h
     exact va_tabs rfl (rfl : (s.setVm U.vm).vm = U.vm) h2)
  | (rename_i x
     have h2 : (Cond.privateMethod x).before #[] (s.setVm U.vm) = true := by rw [Cond.privateMethod_setVm hvm]; exact h
     exact va_tabs rfl (rfl : (s.setVm U.vm).vm = U.vm) h2)
  | (rename_i x
     have h2 : (Cond.arrayOver x).before #[] (s.setVm U.vm) = true := by rw [Cond.arrayOver_setVmC hvm]; exact h
     simp only [Cond.before, Cond.holds, Cond.value, State.vm_setVm] at h2 ⊢; exact h2)
  | (rename_i a b
     have h2 := Cond.castable_setVm (args := #[]) hvm a b
     rw [h] at h2
     exact va_tabs rfl (rfl : (s.setVm U.vm).vm = U.vm) h2)
theorem mw_warm {s U : State} (hW : s.WarmedH U.vm) {w : Cond} (hw : w ∈ MW) (h : w.before #[] s = true) : w.before #[] U = true := by
  have h1 := (List.mem_filter.mp hw).2
  cases w <;> simp only [isNestW] at h1 <;> first | (exact absurd h1 (by decide)) | exact va_Nw.warmM hW h
theorem STv.go {G : GG} {A B : Nat → Prop} {s U : State} {H : Heap} {locs : List Loc} (h : STv G A s s.heap) (hS : va_S A s.heap H locs) (hBA : ∀ q, B q → A q) (hW : s.WarmedH U.vm) (hU : U.heap = H) : ST G B U := by
  obtain ⟨h1, h2, h3, h4, h5, h6, h7, h8, h9, h10, h11, h12, h13, h14, h15, h16⟩ := h
  subst hU
  have hv := hW.alike
  exact ⟨fun k hk => (((h1 k hk).kept hS.2.1).narrow hBA).moved hv, h2, ((h3.kept hS.2.1).narrow hBA).moved hv, ((h4.kept hS.2.1).narrow hBA).moved hv, ((h5.kept hS.2.1).narrow hBA).moved hv,
    fun q hq => (h6 q hq).warm hW, fun j hj => ⟨(((h7 j hj).1.kept hS.2.1).narrow hBA).moved hv, (((h7 j hj).2.1.kept hS.2.1).narrow hBA).moved hv, (((h7 j hj).2.2.1.kept hS.2.1).narrow hBA).moved hv, (((h7 j hj).2.2.2.kept hS.2.1).narrow hBA).moved hv⟩,
    fun w hw => cw_warm hv hw (h8 w hw), fun q hq => (h9 q hq).moved hv, fun w hw => mw_warm hW hw (h10 w hw), ((h11.kept hS.2.1).narrow hBA).moved hv, ((h12.kept hS.2.1).narrow hBA).moved hv, ((h13.kept hS.2.1).narrow hBA).moved hv, ((h14.kept hS.2.1).narrow hBA).moved hv, va_Zq.moved hv (va_Zq.narrow (va_Zq.kept h15 hS.2.1) hBA), ⟨((h16.1.kept hS.2.1).narrow hBA).moved hv, h16.2⟩⟩
/-! ===== the forms of contracts ===== -/
def rPc (G : GG) (ws : va_W) (av : List Value) : Array Value → State → Prop := va_Pc av (fun U => va_P G.1 vwCl ws U.heap ∧ KK G U ∧ ST G (fun _ => False) U)
def wPc (G : GG) (ws : va_W) (av : List Value) (sz : Nat) : Array Value → State → Prop := va_Pc av (fun U => U.heap.size = sz ∧ va_P G.1 vwCl ws U.heap ∧ KK G U ∧ va_D (fun _ => True) ws ∧ ST G (va_A ws sz) U)
theorem ST_calling {G : GG} {A : Nat → Prop} {U : State} {g : JFrame} {mk : MethodId} {a : Array Value} (h : ST G A U) : ST G A (U.calling g mk a) := STv.go (s := U) (U := U.calling g mk a) h (va_S.rf (A := A)) (fun _ h => h) (State.WarmedH.refl U) rfl
theorem rPc_blind {G : GG} {ws : va_W} {av : List Value} : FrameBlind (rPc G ws av) := fun a U g mk q => by
  obtain ⟨q0, qP, qK, qS⟩ := q
  exact ⟨q0, qP, va_K.moved (u := U) (U := U.calling g mk a) (Vm.Alike.refl U.vm) qK, ST_calling qS⟩
theorem wPc_blind {G : GG} {ws : va_W} {av : List Value} {sz : Nat} : FrameBlind (wPc G ws av sz) := fun a U g mk q => by
  obtain ⟨q0, qz, qP, qK, qD, qS⟩ := q
  exact ⟨q0, qz, qP, va_K.moved (u := U) (U := U.calling g mk a) (Vm.Alike.refl U.vm) qK, qD, ST_calling qS⟩
def rQ (v : Option Value) (ex : Prop) : Array Value → State → Outcome → State → Prop := fun _ st oc t => oc = .returned v ∧ ex ∧ t.heap = st.heap
def wQ {S : Type} (val : S → Option Value) (ok : S → Prop) (W1 : S → va_W) (D : va_G) (A : Nat → Prop) : Array Value → State → Outcome → State → Prop := fun _ st oc t => (∃ u, oc = .returned (val u) ∧ ok u ∧ va_P D vwCl (W1 u) t.heap ∧ va_D A (W1 u)) ∧ va_F A st t
def xR (ok : String → Prop) : String → State → State → Prop := fun E st t => ok E ∧ va_F (fun _ => False) st t
def xW {S : Type} (ok : String → S → Prop) (W1 : S → va_W) (D : va_G) (A : Nat → Prop) : String → State → State → Prop := fun E st t => (∃ u, ok E u ∧ va_P D vwCl (W1 u) t.heap ∧ va_D A (W1 u)) ∧ va_F A st t
abbrev rmd (d mc ms : Nat) : Room := { frames := d, cells := mc, slots := ms, locals := 40 * d }
abbrev rMet (l : Launch) (y : MethodName) (b : ByteArray) (n : Nat) (ret : Option FieldType) (d : Nat) (G : GG) (ws : va_W) (av : List Value) (v : Option Value) (ex : Prop) : Prop := Met l y (wsU y b n ret) (rmd d 0 0) (rPc G ws av) (rQ v ex) 0 0 (fun _ => False)
abbrev wMet {S : Type} (l : Launch) (y : MethodName) (b : ByteArray) (n : Nat) (ret : Option FieldType) (d mc ms : Nat) (G : GG) (ws : va_W) (av : List Value) (sz : Nat) (val : S → Option Value) (ok : S → Prop) (W1 : S → va_W) : Prop := Met l y (wsU y b n ret) (rmd d mc ms) (wPc G ws av sz) (wQ val ok W1 G.1 (va_A ws sz)) mc ms (va_A ws sz)
abbrev xrMet (l : Launch) (y : MethodName) (b : ByteArray) (n : Nat) (ret : Option FieldType) (d mc ms : Nat) (G : GG) (ws : va_W) (av : List Value) (v : Option Value) (ex : Prop) (ok : String → Prop) : Prop := vx_Met l y (wsU y b n ret) (rmd d mc ms) (rPc G ws av) (rQ v ex) (xR ok) mc ms (fun _ => False)
abbrev xwMet {S : Type} (l : Launch) (y : MethodName) (b : ByteArray) (n : Nat) (ret : Option FieldType) (d mc ms : Nat) (G : GG) (ws : va_W) (av : List Value) (sz : Nat) (val : S → Option Value) (ok : S → Prop) (W1 : S → va_W) (okx : String → Prop) : Prop := vx_Met l y (wsU y b n ret) (rmd d mc ms) (wPc G ws av sz) (wQ val ok W1 G.1 (va_A ws sz)) (xR okx) mc ms (va_A ws sz)
