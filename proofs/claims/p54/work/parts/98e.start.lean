/-! ===== what the start gives ===== -/
def FLT : List Cond := flatC (Jvm.Cond.and given_1 narrow_1)
theorem st_p {s : State} {b : Nat} (h : (Jvm.Cond.and given_1 narrow_1).before #[Value.ref b] s = true) {w : Cond} (k : Nat) (e : FLT[k]? = some w) : w.before #[Value.ref b] s = true := flat_of_before _ h w (List.mem_of_getElem? e)
theorem st_t {s : State} {b : Nat} (h : ∀ w ∈ lw_tbl, w.before #[Value.ref b] s = true) {w : Cond} (k : Nat) (e : lw_tbl[k]? = some w) : w.before #[Value.ref b] s = true := h w (List.mem_of_getElem? e)
def fdD : String := "LMoonlitDoors$Fault;"
def fnL : List String := ["NOTHING", "INDEX", "ARGUMENT", "PAST", "STATE", "ELEMENT"]
def ixL : List Nat := [603, 594, 596, 599, 601, 648]
def ixX : List Nat := [231, 217, 219, 222, 226, 237]
def ixD : List Nat := [0, 0, 0, 0, 0, 243, 233, 0, 221, 224, 228, 239, 234, 0, 0, 225, 229, 240, 235, 0, 0, 0, 230, 241, 236, 0, 0, 0, 0, 242, 0, 0, 0, 0, 0, 0]
theorem fx_l : ∀ i, i < 6 → lw_tbl[ixL.getD i 0]? = some (Cond.laysStatic RX3 (fnL.getD i "") fdD) := by decide +kernel
theorem fx_x : ∀ i, i < 6 → FLT[ixX.getD i 0]? = some (Cond.exactly (.static RX3 (fnL.getD i "") fdD) RX3) := by decide +kernel
theorem fx_d : ∀ i, i < 6 → ∀ j, j < 6 → i ≠ j → (FLT[ixD.getD (6 * i + j) 0]? = some (Cond.not (.eq (.static RX3 (fnL.getD i "") fdD) (.static RX3 (fnL.getD j "") fdD))) ∨ FLT[ixD.getD (6 * j + i) 0]? = some (Cond.not (.eq (.static RX3 (fnL.getD j "") fdD) (.static RX3 (fnL.getD i "") fdD)))) := by decide +kernel
theorem fx_n : ∀ i, i < 6 → fnL.getD i "" = fnm i := by decide +kernel
def ixE : List Nat := [771, 780, 789, 797, 806, 815, 824, 833, 0, 0, 0, 0, 0, 0, 0, 0, 451, 664, 673, 682, 692, 697, 707, 717, 728, 738, 457, 483, 499, 521, 550, 332, 605, 563, 587, 884, 749, 843, 864, 624, 649]
def ixS : List Nat := [127, 513, 608, 611, 623, 640, 658, 715, 795, 853, 896, 908, 1252, 1255, 1257, 1258, 1259, 1260, 1261, 1262, 1263, 1292, 1325, 1326, 1327, 1328, 1329, 1330, 1331, 1332, 1375, 1397, 1579]
def ixC : List Nat := [772, 781, 790, 798, 807, 816, 825, 834, 0, 0, 0, 0, 0, 0, 0, 0, 452, 665, 674, 683, 693, 698, 708, 718, 729, 739]
def ixA : List Nat := [773, 782, 791, 799, 808, 817, 826, 835, 0, 0, 0, 0, 0, 0, 0, 0, 453, 666, 675, 684, 694, 699, 709, 719, 730, 740]
def ixN : List Nat := [774, 783, 792, 800, 809, 818, 827, 836, 0, 0, 0, 0, 0, 0, 0, 0, 454, 667, 676, 685, 695, 700, 710, 720, 731, 741]
def ixB : List Nat := [775, 784, 793, 801, 810, 819, 828, 837, 0, 0, 0, 0, 0, 0, 0, 0, 455, 668, 677, 686, 696, 701, 711, 721, 732, 742]
def sto : List (String × Nat) := [("MoonlitDoors$Program", 91), ("MoonlitDoors$Program", 93), ("MoonlitDoors$Program", 95), ("MoonlitDoors$Program", 97), ("MoonlitDoors$Program", 99), ("MoonlitDoors$Program", 101), ("MoonlitDoors$Program", 103), ("MoonlitDoors$Program", 105), ("", 0), ("", 0), ("", 0), ("", 0), ("", 0), ("", 0), ("", 0), ("", 0), ("MoonlitDoors$Doors", 74), ("MoonlitDoorsLaw", 166), ("MoonlitDoorsLaw", 175), ("MoonlitDoorsLaw", 181), ("MoonlitDoorsLaw", 183), ("MoonlitDoorsLaw", 185), ("MoonlitDoorsLaw", 187), ("MoonlitDoorsLaw", 189), ("MoonlitDoorsLaw", 191), ("MoonlitDoorsLaw", 193), ("MoonlitDoors", 368), ("MoonlitDoors", 355), ("MoonlitDoors", 378), ("MoonlitDoors", 384), ("MoonlitDoors", 389), ("MoonlitDoors", 350), ("MoonlitDoors", 359), ("MoonlitDoors", 160), ("MoonlitDoors", 353), ("MoonlitDoors", 273), ("MoonlitDoors", 302), ("MoonlitDoors", 318), ("MoonlitDoors", 330), ("MoonlitDoors", 336), ("MoonlitDoors", 344)]
def stm (j : Nat) : Term := .string (sto.getD j ("", 0)).1 (sto.getD j ("", 0)).2
abbrev sfv (j : Nat) : Term := .field (stm j) "java/lang/String" "value" "[B"
theorem fx_e : ∀ j, j < 41 → (j < 8 ∨ 16 ≤ j) → FLT[ixE.getD j 0]? = some (Cond.exactly (stm j) "java/lang/String") := by decide +kernel
theorem fx_s : ∀ j, j < 33 → lw_tbl[ixS.getD j 0]? = (strT[j]?).map (fun q => Cond.stringRef q.1 q.2.1 q.2.2.1) := by decide +kernel
theorem fx_m : ∀ q ∈ strT, (q.2.2.2 < 41 ∧ (q.2.2.2 < 8 ∨ 16 ≤ q.2.2.2)) ∧ sto.getD q.2.2.2 ("", 0) = (q.1, q.2.1) := by decide +kernel
theorem fx_c : ∀ j, j < 26 → (j < 8 ∨ 16 ≤ j) → FLT[ixC.getD j 0]? = some (Cond.eq (.field (stm j) "java/lang/String" "coder" "B") (.int 0)) := by decide +kernel
theorem fx_a : ∀ j, j < 26 → (j < 8 ∨ 16 ≤ j) → FLT[ixA.getD j 0]? = some (Cond.arrayOf (sfv j) .byte) := by decide +kernel
theorem fx_z : ∀ j, j < 26 → (j < 8 ∨ 16 ≤ j) → FLT[ixN.getD j 0]? = some (Cond.eq (.length (sfv j)) (.int (Int32.ofNat (strL.getD j []).length))) ∧ (strL.getD j []).length < 2 ^ 31 := by decide +kernel
theorem fx_b : ∀ j, j < 26 → (j < 8 ∨ 16 ≤ j) → ∀ i, i < (strL.getD j []).length → FLT[ixB.getD j 0 + i]? = some (Cond.eq (.elem (sfv j) (.int (Int32.ofNat i))) (.int (nI ((strL.getD j []).getD i 0)))) := by decide +kernel
def ixNC : List Nat := [270, 271, 272, 273, 275, 306, 307, 308, 309, 311, 254, 255, 256, 257, 258, 288, 289, 290, 291, 293, 324, 325, 326, 327, 329]
theorem fx_nc : ∀ j, j < 25 → FLT[ixNC.getD j 0]? = (NC[j]?).map (fun q => Cond.not (.castable q.1 q.2)) := by decide +kernel
abbrev sdo : Term := .static "java/lang/Integer" "DigitOnes" "[B"
abbrev sdt : Term := .static "java/lang/Integer" "DigitTens" "[B"
theorem fx_do : ∀ j, j < 100 → FLT[14 + j]? = some (Cond.eq (.elem sdo (.int (Int32.ofNat j))) (.int (nI (48 + j % 10)))) := by decide +kernel
theorem fx_dt : ∀ j, j < 100 → FLT[117 + j]? = some (Cond.eq (.elem sdt (.int (Int32.ofNat j))) (.int (nI (48 + j / 10)))) := by decide +kernel
theorem cw_args {w : Cond} {s : State} {a a1 : Array Value} (hw : isCastW w = true) (h : w.before a s = true) : w.before a1 s = true := by
  cases w <;> simp only [isCastW] at hw <;> first | exact absurd hw (by decide) | exact h | (simp only [Cond.before, Cond.holds, Cond.value] at h ⊢; exact h)
theorem mw_args {w : Cond} {s : State} {a a1 : Array Value} (hw : isNestW w = true) (h : w.before a s = true) : w.before a1 s = true := by
  cases w <;> simp only [isNestW] at hw <;> first | exact absurd hw (by decide) | exact h | (simp only [Cond.before, Cond.holds, Cond.value] at h ⊢; exact h)
theorem uws_Jx00060 : ∀ w ∈ wsJx000600, w ∈ UW := uw_all [451, 452, 453, 454, 455, 466] (by decide +kernel) (by decide +kernel)
theorem uws_Jx7c733 : ∀ w ∈ wsJx7c7330, w ∈ UW := uw_all [426, 427, 428, 429, 430, 431] (by decide +kernel) (by decide +kernel)
theorem kn_one {s : State} {b : Nat} (ht : ∀ w ∈ lw_tbl, w.before #[Value.ref b] s = true) {C : String} {T : u_T} {N n : Nat} (h1 : ∀ w ∈ u_ws C T N, w ∈ UW) (k : Nat) (e : lw_tbl[k]? = some (Cond.instantiable C n)) : ∃ D : ClassId × (Nat → Nat), u_Kn s C T N D.1 D.2 := by
  obtain ⟨x, y, h⟩ := u_known (ws := UW) (n := n) (fun w hw => ht w (uw_tbl hw)) h1 (st_t ht k e)
  exact ⟨(x, y), h⟩
theorem kn_all {s : State} {b : Nat} (ht : ∀ w ∈ lw_tbl, w.before #[Value.ref b] s = true) : ∀ q ∈ vwCl, ∃ D : ClassId × (Nat → Nat), u_Kn s q.1 q.2.1 q.2.2 D.1 D.2 := by
  exact List.forall_mem_cons.mpr ⟨kn_one ht (C := RJ0) (T := TJ0) (N := 4) (n := 4) uws_J0 349 (by decide +kernel), List.forall_mem_cons.mpr ⟨kn_one ht (C := RJ4) (T := TJ4) (N := 4) (n := 4) uws_J4 168 (by decide +kernel), List.forall_mem_cons.mpr ⟨kn_one ht (C := RJx00060) (T := TJx00060) (N := 6) (n := 6) uws_Jx00060 446 (by decide +kernel), List.forall_mem_cons.mpr ⟨kn_one ht (C := RJx7c733) (T := TJx7c733) (N := 6) (n := 6) uws_Jx7c733 163 (by decide +kernel), List.forall_mem_cons.mpr ⟨kn_one ht (C := RX0) (T := TX0) (N := 7) (n := 7) uws_X0 996 (by decide +kernel), List.forall_mem_cons.mpr ⟨kn_one ht (C := RX1) (T := TX1) (N := 4) (n := 4) uws_X1 695 (by decide +kernel), List.forall_mem_cons.mpr ⟨kn_one ht (C := RX2) (T := TX2) (N := 5) (n := 5) uws_X2 502 (by decide +kernel), List.forall_mem_cons.mpr ⟨kn_one ht (C := RX4) (T := TX4) (N := 3) (n := 3) uws_X4 676 (by decide +kernel), List.forall_mem_cons.mpr ⟨kn_one ht (C := RX5) (T := TX5) (N := 3) (n := 3) uws_X5 803 (by decide +kernel), List.forall_mem_cons.mpr ⟨kn_one ht (C := RX6) (T := TX6) (N := 5) (n := 5) uws_X6 1068 (by decide +kernel), List.forall_mem_cons.mpr ⟨kn_one ht (C := RX8) (T := TX8) (N := 6) (n := 6) uws_X8 868 (by decide +kernel), List.forall_mem_cons.mpr ⟨kn_one ht (C := RX9) (T := TX9) (N := 8) (n := 8) uws_X9 73 (by decide +kernel), fun _ h => absurd h List.not_mem_nil⟩⟩⟩⟩⟩⟩⟩⟩⟩⟩⟩⟩
theorem kn_arr {s : State} {b : Nat} {t : FieldType} (h : (Cond.arrayClass t).before #[Value.ref b] s = true) : ∃ c : ClassId, ArrOfT s c t ∧ s.vm.findClass ("[" ++ t.toString) = some c := by
  obtain ⟨c, k, comp, h1, h2, h3⟩ := Cond.arrayClass_spec (args := #[Value.ref b]) (first := s) (o := none) (s := s) (idx := []) h
  exact ⟨c, fun N z => ⟨(fun k h => by cases h), k, h2, comp, h3⟩, h1⟩
theorem kn_over {s : State} {b : Nat} {C : String} (h : (Cond.arrayOver (.object C)).before #[Value.ref b] s = true) : ∃ c : ClassId, ArrOfT s c (.object C) ∧ va_RA s c (.object C) := by
  obtain ⟨comp, c, k, h1, -, h2, h3, h4⟩ := Cond.arrayOver_spec (args := #[Value.ref b]) (first := s) (o := none) (s := s) (idx := []) h
  exact ⟨c, fun N z => ⟨(fun k h => by cases h), k, h2, comp, h3⟩, k, comp, h2, h3, h1, h4⟩
theorem st_KK {s : State} {b : Nat} (ht : ∀ w ∈ lw_tbl, w.before #[Value.ref b] s = true) : ∃ (D : va_G) (ca : Nat → ClassId), ∀ (f : Nat → Nat) (g : Nat → Nat), KK (D, ca, f, g) s := by
  have h0 : ∀ c : Nat, ∃ D : ClassId × (Nat → Nat), ∀ q : vw_C, vwCl[c]? = some q → u_Kn s q.1 q.2.1 q.2.2 D.1 D.2 := by
    intro c
    cases hc : vwCl[c]? with
    | none => exact ⟨(0, fun _ => 0), fun q h => by cases h⟩
    | some q =>
      obtain ⟨D, h⟩ := kn_all ht q (List.mem_of_getElem? hc)
      exact ⟨D, fun q1 h1 => by cases h1; exact h⟩
  obtain ⟨D, hD⟩ := Classical.axiomOfChoice h0
  obtain ⟨c0, a0, r0⟩ := kn_arr (st_t ht 958 (w := Cond.arrayClass .int) (by decide +kernel))
  obtain ⟨c1, a1, r1⟩ := kn_over (st_t ht 1054 (w := Cond.arrayOver (.object RX8)) (by decide +kernel))
  obtain ⟨c2, a2, r2⟩ := kn_arr (st_t ht 153 (w := Cond.arrayClass .byte) (by decide +kernel))
  refine ⟨(fun c => (D c).1, fun c => (D c).2), fun k => [c0, c1, c2].getD k 0, fun f g => ⟨fun c q h => hD c q h, fun k q h => ?_⟩⟩
  match k, h with
  | 0, h => cases h; exact ⟨a0, r0⟩
  | 1, h => cases h; exact ⟨a1, r1⟩
  | 2, h => cases h; exact ⟨a2, r2⟩
  | k + 3, h => exact absurd h (by simp [tysG])
theorem st_str {s : State} {b : Nat} {A : Nat → Prop} (h : (Jvm.Cond.and given_1 narrow_1).before #[Value.ref b] s = true) (hA : ∀ a : Nat, a < s.heap.size → ¬ A a) : ∃ f : Nat → Nat × Nat, (∀ j, (j < 41 ∧ (j < 8 ∨ 16 ≤ j)) → (stm j).eval #[Value.ref b] s none [] s = some (.ref (f j).1)) ∧ ∀ j, (j < 26 ∧ (j < 8 ∨ 16 ≤ j)) → va_O "java/lang/String" (f j).1 A s s.heap ∧ va_OF "java/lang/String" "coder" "B" (.int 0) (f j).1 A s s.heap ∧ va_OF "java/lang/String" "value" "[B" (.ref (f j).2) (f j).1 A s s.heap ∧ va_T .byte (f j).2 (strL.getD j []).length (fun i => .int (nI ((strL.getD j []).getD i 0))) A s s.heap := by
  have h0 : ∀ j : Nat, ∃ q : Nat × Nat, ((j < 41 ∧ (j < 8 ∨ 16 ≤ j)) → (stm j).eval #[Value.ref b] s none [] s = some (.ref q.1)) ∧ ((j < 26 ∧ (j < 8 ∨ 16 ≤ j)) → va_O "java/lang/String" q.1 A s s.heap ∧ va_OF "java/lang/String" "coder" "B" (.int 0) q.1 A s s.heap ∧ va_OF "java/lang/String" "value" "[B" (.ref q.2) q.1 A s s.heap ∧ va_T .byte q.2 (strL.getD j []).length (fun i => .int (nI ((strL.getD j []).getD i 0))) A s s.heap) := by
    intro j
    by_cases hj : j < 41 ∧ (j < 8 ∨ 16 ≤ j)
    · have e0 := st_p h _ (fx_e j hj.1 hj.2)
      obtain ⟨a, c, cA, kA, q1, -, -, -, -, -, -⟩ := Cond.exactly_spec (args := #[Value.ref b]) (first := s) (o := none) (s := s) (idx := []) (t := stm j) (cls := "java/lang/String") e0
      by_cases hk : j < 26 ∧ (j < 8 ∨ 16 ≤ j)
      · obtain ⟨t, ht, hT⟩ := va_Tof (f := fun i => .int (nI ((strL.getD j []).getD i 0))) (A := A) (fx_z j hk.1 hk.2).2 (st_p h _ (fx_a j hk.1 hk.2)) (va_eqt (st_p h _ (fx_z j hk.1 hk.2).1)) (fun i hi => va_eqt (st_p h _ (fx_b j hk.1 hk.2 i hi))) hA
        exact ⟨(a, t), fun _ => q1, fun _ => ⟨va_Oof e0 q1 hA, vk_OFof q1 (va_eqt (st_p h _ (fx_c j hk.1 hk.2))) hA, vk_OFof q1 ht hA, hT⟩⟩
      · exact ⟨(a, 0), fun _ => q1, fun w => absurd w hk⟩
    · exact ⟨(0, 0), fun w => absurd w hj, fun w => absurd ⟨by omega, w.2⟩ hj⟩
  obtain ⟨f, hf⟩ := Classical.axiomOfChoice h0
  exact ⟨f, fun j hj => (hf j).1 hj, fun j hj => (hf j).2 hj⟩
theorem i32_nat (x : Int32) : Int32.ofNat x.toBitVec.toNat = x := by
  apply Int32.toBitVec_inj.mp
  show BitVec.ofNat 32 x.toBitVec.toNat = x.toBitVec
  exact BitVec.ofNat_toNat 32 x.toBitVec ▸ BitVec.setWidth_eq x.toBitVec
theorem st_ST {s : State} {b n : Nat} {xs : Nat → Int32} {A : Nat → Prop} (hX : va_X b n xs s s.heap) (hn : n < 2 ^ 31) (ht : ∀ w ∈ lw_tbl, w.before #[Value.ref b] s = true) (h : (Jvm.Cond.and given_1 narrow_1).before #[Value.ref b] s = true) (hA : ∀ a : Nat, a < s.heap.size → ¬ A a) : ∃ G : GG, KK G s ∧ ST G A s ∧ scB G = b := by
  obtain ⟨D, ca, hK⟩ := st_KK ht
  obtain ⟨ad, hE, hinj⟩ := va_Enof (s := s) (args := #[Value.ref b]) (E := RX3) (d := fdD) (nm := fnL) (F := []) (A := A) (fun i hi => st_t ht _ (fx_l i hi)) (st_t ht 34 (w := Cond.initialized RX3) (by decide +kernel)) (fun i hi => st_p h _ (fx_x i hi)) (fun q hq => absurd hq List.not_mem_nil) (fun i j hi hj hij => (fx_d i hi j hj hij).elim (fun w => Or.inl (st_p h _ w)) (fun w => Or.inr (st_p h _ w))) hA
  obtain ⟨f, hf1, hf2⟩ := st_str h hA
  obtain ⟨t1, ht1, hT1⟩ := va_Tof (tm := sdo) (N := 100) (f := fun j => .int (nI (48 + j % 10))) (A := A) (by decide) (st_p h 12 (w := Cond.arrayOf sdo .byte) (by decide +kernel)) (va_eqt (st_p h 13 (w := Cond.eq (.length sdo) (.int (Int32.ofNat 100))) (by decide +kernel))) (fun j hj => va_eqt (st_p h _ (fx_do j hj))) hA
  obtain ⟨t2, ht2, hT2⟩ := va_Tof (tm := sdt) (N := 100) (f := fun j => .int (nI (48 + j / 10))) (A := A) (by decide) (st_p h 115 (w := Cond.arrayOf sdt .byte) (by decide +kernel)) (va_eqt (st_p h 116 (w := Cond.eq (.length sdt) (.int (Int32.ofNat 100))) (by decide +kernel))) (fun j hj => va_eqt (st_p h _ (fx_dt j hj))) hA
  have hI := st_t ht 47 (w := Cond.initialized "java/lang/Integer") (by decide +kernel)
  have hTh := st_t ht 35 (w := Cond.initialized Bundle.tN) (by decide +kernel)
  refine ⟨(D, ca, fun k => if k < 10 then ad k else (f (k - 10)).1, fun k => if k = 100 then t1 else if k = 101 then t2 else if k = 200 then b else if k = 201 then n else if 300 ≤ k then (xs (k - 300)).toBitVec.toNat else (f k).2), hK _ _, ⟨fun k hk => ?_, fun i j hi hj e => ?_, ?_, ?_, ?_, fun q hq => ?_, fun j hj => ?_, fun w hw => ?_, fun q hq => ?_, fun w hw => ?_, ?_, ?_, ?_, ?_, ?_, ?_⟩, rfl⟩
  · show va_Z RX3 (fnm k) fdD (.ref (if k < 10 then ad k else (f (k - 10)).1)) A s s.heap
    rw [if_pos (by omega), ← fx_n k hk]
    exact (hE k hk).1
  · have e : (if i < 10 then ad i else (f (i - 10)).1) = (if j < 10 then ad j else (f (j - 10)).1) := e
    rw [if_pos (by omega), if_pos (by omega)] at e
    exact hinj i j hi hj e
  · exact vx_Zqof (st_t ht 108 (by decide +kernel)) hTh (st_p h 4 (by decide +kernel)) hA
  · exact vx_Zqof (st_t ht 110 (by decide +kernel)) hTh (st_p h 5 (by decide +kernel)) hA
  · exact va_Zof (st_t ht 177 (by decide +kernel)) (st_t ht 31 (by decide +kernel)) (va_eqt (st_p h 6 (by decide +kernel))) hA
  · obtain ⟨m1, m2⟩ := fx_m q hq
    obtain ⟨j, hj⟩ := List.getElem?_of_mem hq
    have hj33 : j < 33 := (List.getElem?_eq_some_iff.mp hj).1
    have hw := fx_s j hj33
    rw [hj] at hw
    have hv := hf1 q.2.2.2 m1
    unfold stm at hv
    rw [m2] at hv
    show vk_R q.1 q.2.1 q.2.2.1 (if 10 + q.2.2.2 < 10 then ad (10 + q.2.2.2) else (f (10 + q.2.2.2 - 10)).1) s
    rw [if_neg (by omega), Nat.add_sub_cancel_left]
    exact vk_R.of (A := #[Value.ref b]) (st_t ht _ hw) hv
  · have hj17 : j < 26 := hj.1
    show va_O "java/lang/String" (if 10 + j < 10 then ad (10 + j) else (f (10 + j - 10)).1) A s s.heap ∧ va_OF "java/lang/String" "coder" "B" (.int 0) (if 10 + j < 10 then ad (10 + j) else (f (10 + j - 10)).1) A s s.heap ∧ va_OF "java/lang/String" "value" "[B" (.ref (if j = 100 then t1 else if j = 101 then t2 else if j = 200 then b else if j = 201 then n else if 300 ≤ j then (xs (j - 300)).toBitVec.toNat else (f j).2)) (if 10 + j < 10 then ad (10 + j) else (f (10 + j - 10)).1) A s s.heap ∧ va_T .byte (if j = 100 then t1 else if j = 101 then t2 else if j = 200 then b else if j = 201 then n else if 300 ≤ j then (xs (j - 300)).toBitVec.toNat else (f j).2) (strL.getD j []).length (fun i => .int (nI ((strL.getD j []).getD i 0))) A s s.heap
    rw [if_neg (show ¬ 10 + j < 10 by omega), if_neg (show ¬ j = 100 by omega), if_neg (show ¬ j = 101 by omega), if_neg (show ¬ j = 200 by omega), if_neg (show ¬ j = 201 by omega), if_neg (show ¬ 300 ≤ j by omega), Nat.add_sub_cancel_left]
    exact hf2 j hj
  · exact cw_args (List.mem_filter.mp hw).2 (ht w (List.mem_filter.mp hw).1)
  · obtain ⟨j, hj⟩ := List.getElem?_of_mem hq
    have hj30 : j < 25 := (List.getElem?_eq_some_iff.mp hj).1
    have hw := fx_nc j hj30
    rw [hj] at hw
    exact va_Nc.of (args := #[Value.ref b]) (st_p h _ hw)
  · exact mw_args (List.mem_filter.mp hw).2 (ht w (List.mem_filter.mp hw).1)
  · exact va_Zref (st_t ht 333 (by decide +kernel)) hI ht1 hA
  · exact hT1
  · exact va_Zref (st_t ht 335 (by decide +kernel)) hI ht2 hA
  · exact hT2
  · exact va_Zqof (st_t ht 263 (by decide +kernel)) (st_t ht 52 (by decide +kernel)) (st_p h 7 (by decide +kernel)) hA
  · obtain ⟨scr, x1, x2, x3, x4, x5⟩ := hX
    refine ⟨⟨scr, x1, x2, x3, by rw [show scL _ = n from rfl, x4]; exact Nat.le_refl n, by rw [x4]; rfl, fun j hj => ?_, hA b (Array.getElem?_eq_some_iff.mp x1).1⟩, hn⟩
    rw [x5 j hj]
    show some (Value.int (xs j)) = some (Value.int (Int32.ofNat (if 300 + j = 100 then t1 else if 300 + j = 101 then t2 else if 300 + j = 200 then b else if 300 + j = 201 then n else if 300 ≤ 300 + j then (xs (300 + j - 300)).toBitVec.toNat else (f (300 + j)).2)))
    rw [if_neg (by omega), if_neg (by omega), if_neg (by omega), if_neg (by omega), if_pos (by omega), Nat.add_sub_cancel_left, i32_nat]
