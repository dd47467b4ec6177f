/-! ===== the law's loop over the calls ===== -/
def lwoffs : Array Int := #[219, 311, 415, 511, 586, 642, 655, 711, 767, 842, 898, 911, 986, 1042, 1098, 1142, 1210, 1278, 1346, 1414, 1427, 1502, 1570, 1626, 1682, 1738, 1794, 1807, 1820, 1876, 1932, 1995, 2051, 2107, 2175, 2231, 2299, 2367, 2423, 2479, 2535, 2591, 2656, 2712, 2768, 2826, 2870, 2914, 2958, 3002, 3015]
def lwoff (k : Nat) : Int := lwoffs.getD k 0
def lwpc (k : Nat) : Nat := [264, 356, 460, 556, 631, 687, 700, 756, 812, 887, 943, 956, 1031, 1087, 1143, 1187, 1255, 1323, 1391, 1459, 1472, 1547, 1615, 1671, 1727, 1783, 1839, 1852, 1865, 1921, 1977, 2040, 2096, 2152, 2220, 2276, 2344, 2412, 2468, 2524, 2580, 2636, 2701, 2757, 2813, 2871, 2915, 2959, 3003, 3047, 3060].getD k 0
theorem lw_o : ∀ k : Nat, k < 51 → lwoffs[((k : Int) - 0).toNat]? = some (lwoff k) := by decide +kernel
theorem lw_p : ∀ k : Nat, k < 51 → ((45 : Nat) : Int) + lwoff k = (lwpc k : Int) := by decide +kernel
theorem dL_law_28 : decode cL_law 28 = .ok (.iload 5, 2) := by decide +kernel
theorem dL_law_30 : decode cL_law 30 = .ok (.aload_n 0, 1) := by decide +kernel
theorem dL_law_31 : decode cL_law 31 = .ok (.arraylength, 1) := by decide +kernel
theorem dL_law_32 : decode cL_law 32 = .ok (.bipush 6, 2) := by decide +kernel
theorem dL_law_34 : decode cL_law 34 = .ok (.isub, 1) := by decide +kernel
theorem dL_law_35 : decode cL_law 35 = .ok (.if_icmp .gt 3075, 3) := by decide +kernel
theorem dL_law_38 : decode cL_law 38 = .ok (.aload_n 0, 1) := by decide +kernel
theorem dL_law_39 : decode cL_law 39 = .ok (.iload 5, 2) := by decide +kernel
theorem dL_law_41 : decode cL_law 41 = .ok (.iaload, 1) := by decide +kernel
theorem dL_law_42 : decode cL_law 42 = .ok (.bipush 63, 2) := by decide +kernel
theorem dL_law_44 : decode cL_law 44 = .ok (.iand, 1) := by decide +kernel
theorem dL_law_45 : decode cL_law 45 = .ok (.tableswitch 3059 0 50 lwoffs, 219) := by decide +kernel
theorem dL_law_3104 : decode cL_law 3104 = .ok (.iinc 5 6, 3) := by decide +kernel
theorem dL_law_3107 : decode cL_law 3107 = .ok (.goto (-3079), 3) := by decide +kernel
theorem dL_law_3110 : decode cL_law 3110 = .ok (.iconst 1, 1) := by decide +kernel
theorem dL_law_3111 : decode cL_law 3111 = .ok (.ireturn, 1) := by decide +kernel
theorem lw_sw {p : Program} {e : Env} {s : State} {m : MethodId} {below : List Frame} {meth : Method} {c : Code} {Q : State → Prop} {l : Launch} (hx : p.tables.exec = Jvm.exec) (hb : c.code = cL_law) {b kc ks : Nat} {H : Heap} {locs : List Loc} {ls : Array Slot} {x : Int32} (hout : W p l e room_1 s m #[Value.ref b] below meth c H locs kc ks Q (F0 m 3104 ls [])) (hin : ∀ k, k < 51 → W p l e room_1 s m #[Value.ref b] below meth c H locs kc ks Q (F0 m (lwpc k) ls [])) : W p l e room_1 s m #[Value.ref b] below meth c H locs kc ks Q (F0 m 45 ls [.int x]) := by
  by_cases h : x.toInt < 0 ∨ 50 < x.toInt
  · exact lv_tableOut (tgt := 3104) hx hb dL_law_45 h (by decide) hout
  · have h1 : ¬ x.toInt < 0 := fun w => h (Or.inl w)
    have h2 : ¬ 50 < x.toInt := fun w => h (Or.inr w)
    obtain ⟨k, hk⟩ : ∃ k : Nat, x.toInt = k := ⟨x.toInt.toNat, by omega⟩
    have hk5 : k < 51 := by omega
    exact lv_tableIn (off := lwoff k) (tgt := lwpc k) hx hb dL_law_45 h1 h2 (by rw [hk]; exact lw_o k hk5) (lw_p k hk5) (hin k hk5)
theorem lw_51 {P : Nat → Prop} (h0 : P 0) (h1 : P 1) (h2 : P 2) (h3 : P 3) (h4 : P 4) (h5 : P 5) (h6 : P 6) (h7 : P 7) (h8 : P 8) (h9 : P 9) (h10 : P 10) (h11 : P 11) (h12 : P 12) (h13 : P 13) (h14 : P 14) (h15 : P 15) (h16 : P 16) (h17 : P 17) (h18 : P 18) (h19 : P 19) (h20 : P 20) (h21 : P 21) (h22 : P 22) (h23 : P 23) (h24 : P 24) (h25 : P 25) (h26 : P 26) (h27 : P 27) (h28 : P 28) (h29 : P 29) (h30 : P 30) (h31 : P 31) (h32 : P 32) (h33 : P 33) (h34 : P 34) (h35 : P 35) (h36 : P 36) (h37 : P 37) (h38 : P 38) (h39 : P 39) (h40 : P 40) (h41 : P 41) (h42 : P 42) (h43 : P 43) (h44 : P 44) (h45 : P 45) (h46 : P 46) (h47 : P 47) (h48 : P 48) (h49 : P 49) (h50 : P 50) : ∀ k, k < 51 → P k := by
  intro k hk
  rcases Nat.eq_or_lt_of_le (Nat.le_of_lt_succ hk) with e | hk
  · subst e; exact h50
  rcases Nat.eq_or_lt_of_le (Nat.le_of_lt_succ hk) with e | hk
  · subst e; exact h49
  rcases Nat.eq_or_lt_of_le (Nat.le_of_lt_succ hk) with e | hk
  · subst e; exact h48
  rcases Nat.eq_or_lt_of_le (Nat.le_of_lt_succ hk) with e | hk
  · subst e; exact h47
  rcases Nat.eq_or_lt_of_le (Nat.le_of_lt_succ hk) with e | hk
  · subst e; exact h46
  rcases Nat.eq_or_lt_of_le (Nat.le_of_lt_succ hk) with e | hk
  · subst e; exact h45
  rcases Nat.eq_or_lt_of_le (Nat.le_of_lt_succ hk) with e | hk
  · subst e; exact h44
  rcases Nat.eq_or_lt_of_le (Nat.le_of_lt_succ hk) with e | hk
  · subst e; exact h43
  rcases Nat.eq_or_lt_of_le (Nat.le_of_lt_succ hk) with e | hk
  · subst e; exact h42
  rcases Nat.eq_or_lt_of_le (Nat.le_of_lt_succ hk) with e | hk
  · subst e; exact h41
  rcases Nat.eq_or_lt_of_le (Nat.le_of_lt_succ hk) with e | hk
  · subst e; exact h40
  rcases Nat.eq_or_lt_of_le (Nat.le_of_lt_succ hk) with e | hk
  · subst e; exact h39
  rcases Nat.eq_or_lt_of_le (Nat.le_of_lt_succ hk) with e | hk
  · subst e; exact h38
  rcases Nat.eq_or_lt_of_le (Nat.le_of_lt_succ hk) with e | hk
  · subst e; exact h37
  rcases Nat.eq_or_lt_of_le (Nat.le_of_lt_succ hk) with e | hk
  · subst e; exact h36
  rcases Nat.eq_or_lt_of_le (Nat.le_of_lt_succ hk) with e | hk
  · subst e; exact h35
  rcases Nat.eq_or_lt_of_le (Nat.le_of_lt_succ hk) with e | hk
  · subst e; exact h34
  rcases Nat.eq_or_lt_of_le (Nat.le_of_lt_succ hk) with e | hk
  · subst e; exact h33
  rcases Nat.eq_or_lt_of_le (Nat.le_of_lt_succ hk) with e | hk
  · subst e; exact h32
  rcases Nat.eq_or_lt_of_le (Nat.le_of_lt_succ hk) with e | hk
  · subst e; exact h31
  rcases Nat.eq_or_lt_of_le (Nat.le_of_lt_succ hk) with e | hk
  · subst e; exact h30
  rcases Nat.eq_or_lt_of_le (Nat.le_of_lt_succ hk) with e | hk
  · subst e; exact h29
  rcases Nat.eq_or_lt_of_le (Nat.le_of_lt_succ hk) with e | hk
  · subst e; exact h28
  rcases Nat.eq_or_lt_of_le (Nat.le_of_lt_succ hk) with e | hk
  · subst e; exact h27
  rcases Nat.eq_or_lt_of_le (Nat.le_of_lt_succ hk) with e | hk
  · subst e; exact h26
  rcases Nat.eq_or_lt_of_le (Nat.le_of_lt_succ hk) with e | hk
  · subst e; exact h25
  rcases Nat.eq_or_lt_of_le (Nat.le_of_lt_succ hk) with e | hk
  · subst e; exact h24
  rcases Nat.eq_or_lt_of_le (Nat.le_of_lt_succ hk) with e | hk
  · subst e; exact h23
  rcases Nat.eq_or_lt_of_le (Nat.le_of_lt_succ hk) with e | hk
  · subst e; exact h22
  rcases Nat.eq_or_lt_of_le (Nat.le_of_lt_succ hk) with e | hk
  · subst e; exact h21
  rcases Nat.eq_or_lt_of_le (Nat.le_of_lt_succ hk) with e | hk
  · subst e; exact h20
  rcases Nat.eq_or_lt_of_le (Nat.le_of_lt_succ hk) with e | hk
  · subst e; exact h19
  rcases Nat.eq_or_lt_of_le (Nat.le_of_lt_succ hk) with e | hk
  · subst e; exact h18
  rcases Nat.eq_or_lt_of_le (Nat.le_of_lt_succ hk) with e | hk
  · subst e; exact h17
  rcases Nat.eq_or_lt_of_le (Nat.le_of_lt_succ hk) with e | hk
  · subst e; exact h16
  rcases Nat.eq_or_lt_of_le (Nat.le_of_lt_succ hk) with e | hk
  · subst e; exact h15
  rcases Nat.eq_or_lt_of_le (Nat.le_of_lt_succ hk) with e | hk
  · subst e; exact h14
  rcases Nat.eq_or_lt_of_le (Nat.le_of_lt_succ hk) with e | hk
  · subst e; exact h13
  rcases Nat.eq_or_lt_of_le (Nat.le_of_lt_succ hk) with e | hk
  · subst e; exact h12
  rcases Nat.eq_or_lt_of_le (Nat.le_of_lt_succ hk) with e | hk
  · subst e; exact h11
  rcases Nat.eq_or_lt_of_le (Nat.le_of_lt_succ hk) with e | hk
  · subst e; exact h10
  rcases Nat.eq_or_lt_of_le (Nat.le_of_lt_succ hk) with e | hk
  · subst e; exact h9
  rcases Nat.eq_or_lt_of_le (Nat.le_of_lt_succ hk) with e | hk
  · subst e; exact h8
  rcases Nat.eq_or_lt_of_le (Nat.le_of_lt_succ hk) with e | hk
  · subst e; exact h7
  rcases Nat.eq_or_lt_of_le (Nat.le_of_lt_succ hk) with e | hk
  · subst e; exact h6
  rcases Nat.eq_or_lt_of_le (Nat.le_of_lt_succ hk) with e | hk
  · subst e; exact h5
  rcases Nat.eq_or_lt_of_le (Nat.le_of_lt_succ hk) with e | hk
  · subst e; exact h4
  rcases Nat.eq_or_lt_of_le (Nat.le_of_lt_succ hk) with e | hk
  · subst e; exact h3
  rcases Nat.eq_or_lt_of_le (Nat.le_of_lt_succ hk) with e | hk
  · subst e; exact h2
  rcases Nat.eq_or_lt_of_le (Nat.le_of_lt_succ hk) with e | hk
  · subst e; exact h1
  rcases Nat.eq_or_lt_of_le (Nat.le_of_lt_succ hk) with e | hk
  · subst e; exact h0
  exact absurd hk (Nat.not_lt_zero k)
theorem lw_end {L j : Nat} (hL : L ≤ 3072) (hj : j ≤ L) (h : ¬ (Int32.ofNat L - 6 < nI j)) : j + 6 ≤ L := by
  have h1 : (Int32.ofNat L).toInt = (L : Int) := nI_toInt (n := L) (by omega)
  have h2 : (nI j).toInt = (j : Int) := nI_toInt (by omega)
  rw [Int32.lt_iff_toInt_lt, Int32.toInt_sub, h1, h2, show (6 : Int32).toInt = 6 from rfl, Int.bmod_eq_of_le (by omega) (by omega)] at h
  omega
def wLw (G : GG) (qh0 : Nat) (va : Nat → Nat) (oa : Nat → Nat) (hih0 : Nat) (hsh : Nat) (hsa : Nat → Nat → Nat) (pgh0 : Nat) (tbh0 : Nat) (nbh0 : Nat) (dh0 : Nat) (dh1 : Nat) (dh2 : Nat) (dh3 : Nat) (dh4 : Nat) (dh5 : Nat) (dh6 : Nat) (dh7 : Nat) (owh : Nat) (odh : Nat) (tbh1 nbh1 : Nat) (u : LwT) : va_W := fl [[(qh0, .inr (11, [.ref (va 0), .ref (oa 0), .int u.1.1, .ref hih0, .ref pgh0, .ref nbh0, .int u.1.2.1, .int u.1.2.2]))], wSt G va u.2.1, wSt G oa u.2.2.1, [(hih0, .inr (7, [.int u.2.2.2.1.1, .int u.2.2.2.1.2, .ref hsh]))], wHs G hsh hsa u.2.2.2.2.1, [(pgh0, .inr (9, [.int u.2.2.2.2.2.1.1, .int u.2.2.2.2.2.1.2.1, .int u.2.2.2.2.2.1.2.2.1, .int u.2.2.2.2.2.1.2.2.2, .ref tbh0]))], [(tbh0, .inr (1, [.ref tbh1, .int (0 : Int32), .int u.2.2.2.2.2.2.1.2.2.1, .int u.2.2.2.2.2.2.1.2.2.2]))], [(tbh1, .inl (G.2.1 2, u.2.2.2.2.2.2.1.1, .inl u.2.2.2.2.2.2.1.2.1))], [(nbh0, .inr (1, [.ref nbh1, .int (0 : Int32), .int u.2.2.2.2.2.2.2.1.2.2.1, .int u.2.2.2.2.2.2.2.1.2.2.2]))], [(nbh1, .inl (G.2.1 2, u.2.2.2.2.2.2.2.1.1, .inl u.2.2.2.2.2.2.2.1.2.1))], wMo G dh0 dh1 dh2 dh3 dh4 dh5 dh6 dh7 u.2.2.2.2.2.2.2.2.1, [(owh, .inl (G.2.1 3, 1, .inr (.inl u.2.2.2.2.2.2.2.2.2.1)))], [(odh, .inl (G.2.1 4, 1, .inr (.inr (.inr (.inl u.2.2.2.2.2.2.2.2.2.2)))))]]
set_option maxHeartbeats 8000000 in
set_option maxRecDepth 100000 in
theorem lw_loop {p : Program} {e : Env} {s : State} {m : MethodId} {below : List Frame} {meth : Method} {c : Code} {Q : State → Prop} {l : Launch} (hlf : l.stackTraces = false) (G : GG) (A : Nat → Prop) {b L : Nat} {xs : Nat → Int32} (hC : LCtx p s m c G A b L xs) (hL : L ≤ 3072) (qh0 : Nat) (va : Nat → Nat) (oa : Nat → Nat) (hih0 : Nat) (hsh : Nat) (hsa : Nat → Nat → Nat) (pgh0 : Nat) (tbh0 : Nat) (nbh0 : Nat) (dh0 : Nat) (dh1 : Nat) (dh2 : Nat) (dh3 : Nat) (dh4 : Nat) (dh5 : Nat) (dh6 : Nat) (dh7 : Nat) (owh : Nat) (odh : Nat)
    (fin : ∀ (H : Heap) (locs : List Loc) (ls : Array Slot), va_S A s.heap H locs → W p l e room_1 s m #[Value.ref b] below meth c H locs 603072 7182442 Q (F0 m 3110 ls [])) :
    ∀ (n B : Nat) (u : LwT) (tbh1 nbh1 : Nat) (H : Heap) (locs : List Loc) (kc ks : Nat) (ls : Array Slot) (j : Nat), L < j + 6 * n + 6 → j ≤ L → B + 10000 * n < 2 ^ 25 → kc + 22 * n ≤ 603072 → ks + 4206 * n ≤ 7182442 → LR B u → lv_has ls 9 [(0, .ref b), (1, .ref qh0), (2, .ref dh0), (3, .ref owh), (4, .ref odh), (5, .int (nI j))] → va_P G.1 vwCl (wLw G qh0 va oa hih0 hsh hsa pgh0 tbh0 nbh0 dh0 dh1 dh2 dh3 dh4 dh5 dh6 dh7 owh odh tbh1 nbh1 u) H → va_D A (wLw G qh0 va oa hih0 hsh hsa pgh0 tbh0 nbh0 dh0 dh1 dh2 dh3 dh4 dh5 dh6 dh7 owh odh tbh1 nbh1 u) → va_S A s.heap H locs → W p l e room_1 s m #[Value.ref b] below meth c H locs kc ks Q (F0 m 28 ls []) := by
  intro n
  induction n with
  | zero =>
    intro B u tbh1 nbh1 H locs kc ks ls j hn hj hB hkc hks hR hl hP hD hS
    obtain ⟨hx, hb, -, -, -, -, -, -, hX, hbl, hbA⟩ := hC
    refine lv_iload hx hb dL_law_28 (lv_at hl 5 rfl) ?_
    refine lv_aload_n hx hb dL_law_30 rfl (lv_at hl 0 rfl) ?_
    refine va_slen hx hb hX hbl hbA hS dL_law_31 ?_
    refine lv_bipush (v := (6 : Int32)) hx hb dL_law_32 (by decide) ?_
    refine lv_isub hx hb dL_law_34 ?_
    refine lv_icmp_gt (tgt := 3110) hx hb dL_law_35 (by decide) (fun c_1 => ?_) (fun c_1 => ?_)
    · exact W.widen (by omega) (by omega) (fin H locs ls hS)
    · exact absurd (lw_end hL hj c_1) (by omega)
  | succ n ih =>
    intro B u tbh1 nbh1 H locs kc ks ls j hn hj hB hkc hks hR hl hP hD hS
    have hC9 := hC
    obtain ⟨hx, hb, -, -, -, -, -, -, hX, hbl, hbA⟩ := hC9
    refine lv_iload hx hb dL_law_28 (lv_at hl 5 rfl) ?_
    refine lv_aload_n hx hb dL_law_30 rfl (lv_at hl 0 rfl) ?_
    refine va_slen hx hb hX hbl hbA hS dL_law_31 ?_
    refine lv_bipush (v := (6 : Int32)) hx hb dL_law_32 (by decide) ?_
    refine lv_isub hx hb dL_law_34 ?_
    refine lv_icmp_gt (tgt := 3110) hx hb dL_law_35 (by decide) (fun c_1 => ?_) (fun c_1 => ?_)
    · exact W.widen (by omega) (by omega) (fin H locs ls hS)
    have hj6 : j + 6 ≤ L := lw_end hL hj c_1
    have kc1 : kc + 22 ≤ 603072 := by omega
    have ks1 : ks + 4206 ≤ 7182442 := by omega
    have hB1 : B < 2 ^ 25 := by omega
    have next : ∀ (tbh1 nbh1 : Nat) (u : LwT) (H : Heap) (locs : List Loc) (ls : Array Slot), LR (B + 10000) u → lv_has ls 9 [(0, .ref b), (1, .ref qh0), (2, .ref dh0), (3, .ref owh), (4, .ref odh), (5, .int (nI j))] → va_P G.1 vwCl (wLw G qh0 va oa hih0 hsh hsa pgh0 tbh0 nbh0 dh0 dh1 dh2 dh3 dh4 dh5 dh6 dh7 owh odh tbh1 nbh1 u) H → va_D A (wLw G qh0 va oa hih0 hsh hsa pgh0 tbh0 nbh0 dh0 dh1 dh2 dh3 dh4 dh5 dh6 dh7 owh odh tbh1 nbh1 u) → va_S A s.heap H locs → W p l e room_1 s m #[Value.ref b] below meth c H locs (kc + 22) (ks + 4206) Q (F0 m 3104 ls []) := by
      intro tbh1 nbh1 u H locs ls hR hl hP hD hS
      refine lv_iinc (v := nI (j + 6)) (lv' := [(5, .int (nI (j + 6))), (0, .ref b), (1, .ref qh0), (2, .ref dh0), (3, .ref owh), (4, .ref odh)]) hx hb dL_law_3104 hl (k := 5) rfl (nI_add j 6) (by decide) rfl (fun ls hl => ?_)
      refine lv_goto (tgt := 28) hx hb dL_law_3107 (by decide) ?_
      exact ih (B + 10000) u tbh1 nbh1 H locs (kc + 22) (ks + 4206) ls (j + 6) (by omega) hj6 (by omega) (by omega) (by omega) hR (lv_sub hl [1, 2, 3, 4, 5, 0] rfl) hP hD hS
    refine lv_aload_n hx hb dL_law_38 rfl (lv_at hl 0 rfl) ?_
    refine lv_iload hx hb dL_law_39 (lv_at hl 5 rfl) ?_
    refine va_sld hx hb hX hbl hbA hS (vp_in_nI (by omega) (by omega)) dL_law_41 ?_
    refine lv_bipush (v := (63 : Int32)) hx hb dL_law_42 (by decide) ?_
    refine lv_iand hx hb dL_law_44 ?_
    refine lw_sw hx hb ?_ ?_
    · exact W.widen (by omega) (by omega) (next tbh1 nbh1 u H locs ls (RW.mono hR (by omega)) hl hP hD hS)
    refine lw_51 ?_ ?_ ?_ ?_ ?_ ?_ ?_ ?_ ?_ ?_ ?_ ?_ ?_ ?_ ?_ ?_ ?_ ?_ ?_ ?_ ?_ ?_ ?_ ?_ ?_ ?_ ?_ ?_ ?_ ?_ ?_ ?_ ?_ ?_ ?_ ?_ ?_ ?_ ?_ ?_ ?_ ?_ ?_ ?_ ?_ ?_ ?_ ?_ ?_ ?_ ?_
    · exact w_K0 l hlf G A hC qh0 va oa hih0 hsh hsa pgh0 tbh0 tbh1 nbh0 nbh1 dh0 dh1 dh2 dh3 dh4 dh5 dh6 dh7 owh odh u.1 u.2.1 u.2.2.1 u.2.2.2.1 u.2.2.2.2.1 u.2.2.2.2.2.1 u.2.2.2.2.2.2.1 u.2.2.2.2.2.2.2.1 u.2.2.2.2.2.2.2.2.1 u.2.2.2.2.2.2.2.2.2.1 u.2.2.2.2.2.2.2.2.2.2 j hj6 hL kc1 ks1 (P_K0 hR hB1 u.2.2.2.2.2.1 u.2.2.2.2.2.2.2.2.2.1 u.2.2.2.2.2.2.2.2.2.2 xs j).1 hl hP hD hS (fun t1 n1 u1 H1 locs1 ls1 hu hl1 hP1 hD1 hS1 => next t1 n1 u1 H1 locs1 ls1 (by rw [hu]; exact (P_K0 hR hB1 u.2.2.2.2.2.1 u.2.2.2.2.2.2.2.2.2.1 u.2.2.2.2.2.2.2.2.2.2 xs j).2) hl1 hP1 hD1 hS1)
    · exact w_K1 l hlf G A hC qh0 va oa hih0 hsh hsa pgh0 tbh0 tbh1 nbh0 nbh1 dh0 dh1 dh2 dh3 dh4 dh5 dh6 dh7 owh odh u.1 u.2.1 u.2.2.1 u.2.2.2.1 u.2.2.2.2.1 u.2.2.2.2.2.1 u.2.2.2.2.2.2.1 u.2.2.2.2.2.2.2.1 u.2.2.2.2.2.2.2.2.1 u.2.2.2.2.2.2.2.2.2.1 u.2.2.2.2.2.2.2.2.2.2 j hj6 hL kc1 ks1 (P_K1 hR hB1 u.2.2.2.2.2.1 u.2.2.2.2.2.2.2.2.2.1 u.2.2.2.2.2.2.2.2.2.2 xs j).1 hl hP hD hS (fun t1 n1 u1 H1 locs1 ls1 hu hl1 hP1 hD1 hS1 => next t1 n1 u1 H1 locs1 ls1 (by rw [hu]; exact (P_K1 hR hB1 u.2.2.2.2.2.1 u.2.2.2.2.2.2.2.2.2.1 u.2.2.2.2.2.2.2.2.2.2 xs j).2) hl1 hP1 hD1 hS1)
    · exact w_K2 l hlf G A hC qh0 va oa hih0 hsh hsa pgh0 tbh0 tbh1 nbh0 nbh1 dh0 dh1 dh2 dh3 dh4 dh5 dh6 dh7 owh odh u.1 u.2.1 u.2.2.1 u.2.2.2.1 u.2.2.2.2.1 u.2.2.2.2.2.1 u.2.2.2.2.2.2.1 u.2.2.2.2.2.2.2.1 u.2.2.2.2.2.2.2.2.1 u.2.2.2.2.2.2.2.2.2.1 u.2.2.2.2.2.2.2.2.2.2 j hj6 hL kc1 ks1 (P_K2 hR hB1 u.2.2.2.2.2.1 u.2.2.2.2.2.2.2.2.2.1 u.2.2.2.2.2.2.2.2.2.2 xs j).1 hl hP hD hS (fun t1 n1 u1 H1 locs1 ls1 hu hl1 hP1 hD1 hS1 => next t1 n1 u1 H1 locs1 ls1 (by rw [hu]; exact (P_K2 hR hB1 u.2.2.2.2.2.1 u.2.2.2.2.2.2.2.2.2.1 u.2.2.2.2.2.2.2.2.2.2 xs j).2) hl1 hP1 hD1 hS1)
    · exact w_K3 l hlf G A hC qh0 va oa hih0 hsh hsa pgh0 tbh0 tbh1 nbh0 nbh1 dh0 dh1 dh2 dh3 dh4 dh5 dh6 dh7 owh odh u.1 u.2.1 u.2.2.1 u.2.2.2.1 u.2.2.2.2.1 u.2.2.2.2.2.1 u.2.2.2.2.2.2.1 u.2.2.2.2.2.2.2.1 u.2.2.2.2.2.2.2.2.1 u.2.2.2.2.2.2.2.2.2.1 u.2.2.2.2.2.2.2.2.2.2 j hj6 hL kc1 ks1 (P_K3 hR hB1 u.2.2.2.2.2.1 u.2.2.2.2.2.2.2.2.2.1 u.2.2.2.2.2.2.2.2.2.2 xs j).1 hl hP hD hS (fun t1 n1 u1 H1 locs1 ls1 hu hl1 hP1 hD1 hS1 => next t1 n1 u1 H1 locs1 ls1 (by rw [hu]; exact (P_K3 hR hB1 u.2.2.2.2.2.1 u.2.2.2.2.2.2.2.2.2.1 u.2.2.2.2.2.2.2.2.2.2 xs j).2) hl1 hP1 hD1 hS1)
    · exact w_K4 l hlf G A hC qh0 va oa hih0 hsh hsa pgh0 tbh0 tbh1 nbh0 nbh1 dh0 dh1 dh2 dh3 dh4 dh5 dh6 dh7 owh odh u.1 u.2.1 u.2.2.1 u.2.2.2.1 u.2.2.2.2.1 u.2.2.2.2.2.1 u.2.2.2.2.2.2.1 u.2.2.2.2.2.2.2.1 u.2.2.2.2.2.2.2.2.1 u.2.2.2.2.2.2.2.2.2.1 u.2.2.2.2.2.2.2.2.2.2 j hj6 hL kc1 ks1 (P_K4 hR hB1 u.2.2.2.2.2.1 u.2.2.2.2.2.2.2.2.2.1 u.2.2.2.2.2.2.2.2.2.2 xs j).1 hl hP hD hS (fun t1 n1 u1 H1 locs1 ls1 hu hl1 hP1 hD1 hS1 => next t1 n1 u1 H1 locs1 ls1 (by rw [hu]; exact (P_K4 hR hB1 u.2.2.2.2.2.1 u.2.2.2.2.2.2.2.2.2.1 u.2.2.2.2.2.2.2.2.2.2 xs j).2) hl1 hP1 hD1 hS1)
    · exact w_K5 l hlf G A hC qh0 va oa hih0 hsh hsa pgh0 tbh0 tbh1 nbh0 nbh1 dh0 dh1 dh2 dh3 dh4 dh5 dh6 dh7 owh odh u.1 u.2.1 u.2.2.1 u.2.2.2.1 u.2.2.2.2.1 u.2.2.2.2.2.1 u.2.2.2.2.2.2.1 u.2.2.2.2.2.2.2.1 u.2.2.2.2.2.2.2.2.1 u.2.2.2.2.2.2.2.2.2.1 u.2.2.2.2.2.2.2.2.2.2 j hj6 hL kc1 ks1 (P_K5 hR hB1 u.2.2.2.2.2.1 u.2.2.2.2.2.2.2.2.2.1 u.2.2.2.2.2.2.2.2.2.2 xs j).1 hl hP hD hS (fun t1 n1 u1 H1 locs1 ls1 hu hl1 hP1 hD1 hS1 => next t1 n1 u1 H1 locs1 ls1 (by rw [hu]; exact (P_K5 hR hB1 u.2.2.2.2.2.1 u.2.2.2.2.2.2.2.2.2.1 u.2.2.2.2.2.2.2.2.2.2 xs j).2) hl1 hP1 hD1 hS1)
    · exact w_K6 l hlf G A hC qh0 va oa hih0 hsh hsa pgh0 tbh0 tbh1 nbh0 nbh1 dh0 dh1 dh2 dh3 dh4 dh5 dh6 dh7 owh odh u.1 u.2.1 u.2.2.1 u.2.2.2.1 u.2.2.2.2.1 u.2.2.2.2.2.1 u.2.2.2.2.2.2.1 u.2.2.2.2.2.2.2.1 u.2.2.2.2.2.2.2.2.1 u.2.2.2.2.2.2.2.2.2.1 u.2.2.2.2.2.2.2.2.2.2 j hj6 hL kc1 ks1 (P_K6 hR hB1 u.2.2.2.2.2.1 u.2.2.2.2.2.2.2.2.2.1 u.2.2.2.2.2.2.2.2.2.2 xs j).1 hl hP hD hS (fun t1 n1 u1 H1 locs1 ls1 hu hl1 hP1 hD1 hS1 => next t1 n1 u1 H1 locs1 ls1 (by rw [hu]; exact (P_K6 hR hB1 u.2.2.2.2.2.1 u.2.2.2.2.2.2.2.2.2.1 u.2.2.2.2.2.2.2.2.2.2 xs j).2) hl1 hP1 hD1 hS1)
    · exact w_K7 l hlf G A hC qh0 va oa hih0 hsh hsa pgh0 tbh0 tbh1 nbh0 nbh1 dh0 dh1 dh2 dh3 dh4 dh5 dh6 dh7 owh odh u.1 u.2.1 u.2.2.1 u.2.2.2.1 u.2.2.2.2.1 u.2.2.2.2.2.1 u.2.2.2.2.2.2.1 u.2.2.2.2.2.2.2.1 u.2.2.2.2.2.2.2.2.1 u.2.2.2.2.2.2.2.2.2.1 u.2.2.2.2.2.2.2.2.2.2 j hj6 hL kc1 ks1 (P_K7 hR hB1 u.2.2.2.2.2.1 u.2.2.2.2.2.2.2.2.2.1 u.2.2.2.2.2.2.2.2.2.2 xs j).1 hl hP hD hS (fun t1 n1 u1 H1 locs1 ls1 hu hl1 hP1 hD1 hS1 => next t1 n1 u1 H1 locs1 ls1 (by rw [hu]; exact (P_K7 hR hB1 u.2.2.2.2.2.1 u.2.2.2.2.2.2.2.2.2.1 u.2.2.2.2.2.2.2.2.2.2 xs j).2) hl1 hP1 hD1 hS1)
    · exact w_K8 l hlf G A hC qh0 va oa hih0 hsh hsa pgh0 tbh0 tbh1 nbh0 nbh1 dh0 dh1 dh2 dh3 dh4 dh5 dh6 dh7 owh odh u.1 u.2.1 u.2.2.1 u.2.2.2.1 u.2.2.2.2.1 u.2.2.2.2.2.1 u.2.2.2.2.2.2.1 u.2.2.2.2.2.2.2.1 u.2.2.2.2.2.2.2.2.1 u.2.2.2.2.2.2.2.2.2.1 u.2.2.2.2.2.2.2.2.2.2 j hj6 hL kc1 ks1 (P_K8 hR hB1 u.2.2.2.2.2.1 u.2.2.2.2.2.2.2.2.2.1 u.2.2.2.2.2.2.2.2.2.2 xs j).1 hl hP hD hS (fun t1 n1 u1 H1 locs1 ls1 hu hl1 hP1 hD1 hS1 => next t1 n1 u1 H1 locs1 ls1 (by rw [hu]; exact (P_K8 hR hB1 u.2.2.2.2.2.1 u.2.2.2.2.2.2.2.2.2.1 u.2.2.2.2.2.2.2.2.2.2 xs j).2) hl1 hP1 hD1 hS1)
    · exact w_K9 l hlf G A hC qh0 va oa hih0 hsh hsa pgh0 tbh0 tbh1 nbh0 nbh1 dh0 dh1 dh2 dh3 dh4 dh5 dh6 dh7 owh odh u.1 u.2.1 u.2.2.1 u.2.2.2.1 u.2.2.2.2.1 u.2.2.2.2.2.1 u.2.2.2.2.2.2.1 u.2.2.2.2.2.2.2.1 u.2.2.2.2.2.2.2.2.1 u.2.2.2.2.2.2.2.2.2.1 u.2.2.2.2.2.2.2.2.2.2 j hj6 hL kc1 ks1 (P_K9 hR hB1 u.2.2.2.2.2.1 u.2.2.2.2.2.2.2.2.2.1 u.2.2.2.2.2.2.2.2.2.2 xs j).1 hl hP hD hS (fun t1 n1 u1 H1 locs1 ls1 hu hl1 hP1 hD1 hS1 => next t1 n1 u1 H1 locs1 ls1 (by rw [hu]; exact (P_K9 hR hB1 u.2.2.2.2.2.1 u.2.2.2.2.2.2.2.2.2.1 u.2.2.2.2.2.2.2.2.2.2 xs j).2) hl1 hP1 hD1 hS1)
    · exact w_K10 l hlf G A hC qh0 va oa hih0 hsh hsa pgh0 tbh0 tbh1 nbh0 nbh1 dh0 dh1 dh2 dh3 dh4 dh5 dh6 dh7 owh odh u.1 u.2.1 u.2.2.1 u.2.2.2.1 u.2.2.2.2.1 u.2.2.2.2.2.1 u.2.2.2.2.2.2.1 u.2.2.2.2.2.2.2.1 u.2.2.2.2.2.2.2.2.1 u.2.2.2.2.2.2.2.2.2.1 u.2.2.2.2.2.2.2.2.2.2 j hj6 hL kc1 ks1 (P_K10 hR hB1 u.2.2.2.2.2.1 u.2.2.2.2.2.2.2.2.2.1 u.2.2.2.2.2.2.2.2.2.2 xs j).1 hl hP hD hS (fun t1 n1 u1 H1 locs1 ls1 hu hl1 hP1 hD1 hS1 => next t1 n1 u1 H1 locs1 ls1 (by rw [hu]; exact (P_K10 hR hB1 u.2.2.2.2.2.1 u.2.2.2.2.2.2.2.2.2.1 u.2.2.2.2.2.2.2.2.2.2 xs j).2) hl1 hP1 hD1 hS1)
    · exact w_K11 l hlf G A hC qh0 va oa hih0 hsh hsa pgh0 tbh0 tbh1 nbh0 nbh1 dh0 dh1 dh2 dh3 dh4 dh5 dh6 dh7 owh odh u.1 u.2.1 u.2.2.1 u.2.2.2.1 u.2.2.2.2.1 u.2.2.2.2.2.1 u.2.2.2.2.2.2.1 u.2.2.2.2.2.2.2.1 u.2.2.2.2.2.2.2.2.1 u.2.2.2.2.2.2.2.2.2.1 u.2.2.2.2.2.2.2.2.2.2 j hj6 hL kc1 ks1 (P_K11 hR hB1 u.2.2.2.2.2.1 u.2.2.2.2.2.2.2.2.2.1 u.2.2.2.2.2.2.2.2.2.2 xs j).1 hl hP hD hS (fun t1 n1 u1 H1 locs1 ls1 hu hl1 hP1 hD1 hS1 => next t1 n1 u1 H1 locs1 ls1 (by rw [hu]; exact (P_K11 hR hB1 u.2.2.2.2.2.1 u.2.2.2.2.2.2.2.2.2.1 u.2.2.2.2.2.2.2.2.2.2 xs j).2) hl1 hP1 hD1 hS1)
    · exact w_K12 l hlf G A hC qh0 va oa hih0 hsh hsa pgh0 tbh0 tbh1 nbh0 nbh1 dh0 dh1 dh2 dh3 dh4 dh5 dh6 dh7 owh odh u.1 u.2.1 u.2.2.1 u.2.2.2.1 u.2.2.2.2.1 u.2.2.2.2.2.1 u.2.2.2.2.2.2.1 u.2.2.2.2.2.2.2.1 u.2.2.2.2.2.2.2.2.1 u.2.2.2.2.2.2.2.2.2.1 u.2.2.2.2.2.2.2.2.2.2 j hj6 hL kc1 ks1 (P_K12 hR hB1 u.2.2.2.2.2.1 u.2.2.2.2.2.2.2.2.2.1 u.2.2.2.2.2.2.2.2.2.2 xs j).1 hl hP hD hS (fun t1 n1 u1 H1 locs1 ls1 hu hl1 hP1 hD1 hS1 => next t1 n1 u1 H1 locs1 ls1 (by rw [hu]; exact (P_K12 hR hB1 u.2.2.2.2.2.1 u.2.2.2.2.2.2.2.2.2.1 u.2.2.2.2.2.2.2.2.2.2 xs j).2) hl1 hP1 hD1 hS1)
    · exact w_K13 l hlf G A hC qh0 va oa hih0 hsh hsa pgh0 tbh0 tbh1 nbh0 nbh1 dh0 dh1 dh2 dh3 dh4 dh5 dh6 dh7 owh odh u.1 u.2.1 u.2.2.1 u.2.2.2.1 u.2.2.2.2.1 u.2.2.2.2.2.1 u.2.2.2.2.2.2.1 u.2.2.2.2.2.2.2.1 u.2.2.2.2.2.2.2.2.1 u.2.2.2.2.2.2.2.2.2.1 u.2.2.2.2.2.2.2.2.2.2 j hj6 hL kc1 ks1 (P_K13 hR hB1 u.2.2.2.2.2.1 u.2.2.2.2.2.2.2.2.2.1 u.2.2.2.2.2.2.2.2.2.2 xs j).1 hl hP hD hS (fun t1 n1 u1 H1 locs1 ls1 hu hl1 hP1 hD1 hS1 => next t1 n1 u1 H1 locs1 ls1 (by rw [hu]; exact (P_K13 hR hB1 u.2.2.2.2.2.1 u.2.2.2.2.2.2.2.2.2.1 u.2.2.2.2.2.2.2.2.2.2 xs j).2) hl1 hP1 hD1 hS1)
    · exact w_K14 l hlf G A hC qh0 va oa hih0 hsh hsa pgh0 tbh0 tbh1 nbh0 nbh1 dh0 dh1 dh2 dh3 dh4 dh5 dh6 dh7 owh odh u.1 u.2.1 u.2.2.1 u.2.2.2.1 u.2.2.2.2.1 u.2.2.2.2.2.1 u.2.2.2.2.2.2.1 u.2.2.2.2.2.2.2.1 u.2.2.2.2.2.2.2.2.1 u.2.2.2.2.2.2.2.2.2.1 u.2.2.2.2.2.2.2.2.2.2 j hj6 hL kc1 ks1 (P_K14 hR hB1 u.2.2.2.2.2.1 u.2.2.2.2.2.2.2.2.2.1 u.2.2.2.2.2.2.2.2.2.2 xs j).1 hl hP hD hS (fun t1 n1 u1 H1 locs1 ls1 hu hl1 hP1 hD1 hS1 => next t1 n1 u1 H1 locs1 ls1 (by rw [hu]; exact (P_K14 hR hB1 u.2.2.2.2.2.1 u.2.2.2.2.2.2.2.2.2.1 u.2.2.2.2.2.2.2.2.2.2 xs j).2) hl1 hP1 hD1 hS1)
    · exact w_K15 l hlf G A hC qh0 va oa hih0 hsh hsa pgh0 tbh0 tbh1 nbh0 nbh1 dh0 dh1 dh2 dh3 dh4 dh5 dh6 dh7 owh odh u.1 u.2.1 u.2.2.1 u.2.2.2.1 u.2.2.2.2.1 u.2.2.2.2.2.1 u.2.2.2.2.2.2.1 u.2.2.2.2.2.2.2.1 u.2.2.2.2.2.2.2.2.1 u.2.2.2.2.2.2.2.2.2.1 u.2.2.2.2.2.2.2.2.2.2 j hj6 hL kc1 ks1 (P_K15 hR hB1 u.2.2.2.2.2.1 u.2.2.2.2.2.2.2.2.2.1 u.2.2.2.2.2.2.2.2.2.2 xs j).1 hl hP hD hS (fun t1 n1 u1 H1 locs1 ls1 hu hl1 hP1 hD1 hS1 => next t1 n1 u1 H1 locs1 ls1 (by rw [hu]; exact (P_K15 hR hB1 u.2.2.2.2.2.1 u.2.2.2.2.2.2.2.2.2.1 u.2.2.2.2.2.2.2.2.2.2 xs j).2) hl1 hP1 hD1 hS1)
    · exact w_K16 l hlf G A hC qh0 va oa hih0 hsh hsa pgh0 tbh0 tbh1 nbh0 nbh1 dh0 dh1 dh2 dh3 dh4 dh5 dh6 dh7 owh odh u.1 u.2.1 u.2.2.1 u.2.2.2.1 u.2.2.2.2.1 u.2.2.2.2.2.1 u.2.2.2.2.2.2.1 u.2.2.2.2.2.2.2.1 u.2.2.2.2.2.2.2.2.1 u.2.2.2.2.2.2.2.2.2.1 u.2.2.2.2.2.2.2.2.2.2 j hj6 hL kc1 ks1 (P_K16 hR hB1 u.2.2.2.2.2.1 u.2.2.2.2.2.2.2.2.2.1 u.2.2.2.2.2.2.2.2.2.2 xs j).1 hl hP hD hS (fun t1 n1 u1 H1 locs1 ls1 hu hl1 hP1 hD1 hS1 => next t1 n1 u1 H1 locs1 ls1 (by rw [hu]; exact (P_K16 hR hB1 u.2.2.2.2.2.1 u.2.2.2.2.2.2.2.2.2.1 u.2.2.2.2.2.2.2.2.2.2 xs j).2) hl1 hP1 hD1 hS1)
    · exact w_K17 l hlf G A hC qh0 va oa hih0 hsh hsa pgh0 tbh0 tbh1 nbh0 nbh1 dh0 dh1 dh2 dh3 dh4 dh5 dh6 dh7 owh odh u.1 u.2.1 u.2.2.1 u.2.2.2.1 u.2.2.2.2.1 u.2.2.2.2.2.1 u.2.2.2.2.2.2.1 u.2.2.2.2.2.2.2.1 u.2.2.2.2.2.2.2.2.1 u.2.2.2.2.2.2.2.2.2.1 u.2.2.2.2.2.2.2.2.2.2 j hj6 hL kc1 ks1 (P_K17 hR hB1 u.2.2.2.2.2.1 u.2.2.2.2.2.2.2.2.2.1 u.2.2.2.2.2.2.2.2.2.2 xs j).1 hl hP hD hS (fun t1 n1 u1 H1 locs1 ls1 hu hl1 hP1 hD1 hS1 => next t1 n1 u1 H1 locs1 ls1 (by rw [hu]; exact (P_K17 hR hB1 u.2.2.2.2.2.1 u.2.2.2.2.2.2.2.2.2.1 u.2.2.2.2.2.2.2.2.2.2 xs j).2) hl1 hP1 hD1 hS1)
    · exact w_K18 l hlf G A hC qh0 va oa hih0 hsh hsa pgh0 tbh0 tbh1 nbh0 nbh1 dh0 dh1 dh2 dh3 dh4 dh5 dh6 dh7 owh odh u.1 u.2.1 u.2.2.1 u.2.2.2.1 u.2.2.2.2.1 u.2.2.2.2.2.1 u.2.2.2.2.2.2.1 u.2.2.2.2.2.2.2.1 u.2.2.2.2.2.2.2.2.1 u.2.2.2.2.2.2.2.2.2.1 u.2.2.2.2.2.2.2.2.2.2 j hj6 hL kc1 ks1 (P_K18 hR hB1 u.2.2.2.2.2.1 u.2.2.2.2.2.2.2.2.2.1 u.2.2.2.2.2.2.2.2.2.2 xs j).1 hl hP hD hS (fun t1 n1 u1 H1 locs1 ls1 hu hl1 hP1 hD1 hS1 => next t1 n1 u1 H1 locs1 ls1 (by rw [hu]; exact (P_K18 hR hB1 u.2.2.2.2.2.1 u.2.2.2.2.2.2.2.2.2.1 u.2.2.2.2.2.2.2.2.2.2 xs j).2) hl1 hP1 hD1 hS1)
    · exact w_K19 l hlf G A hC qh0 va oa hih0 hsh hsa pgh0 tbh0 tbh1 nbh0 nbh1 dh0 dh1 dh2 dh3 dh4 dh5 dh6 dh7 owh odh u.1 u.2.1 u.2.2.1 u.2.2.2.1 u.2.2.2.2.1 u.2.2.2.2.2.1 u.2.2.2.2.2.2.1 u.2.2.2.2.2.2.2.1 u.2.2.2.2.2.2.2.2.1 u.2.2.2.2.2.2.2.2.2.1 u.2.2.2.2.2.2.2.2.2.2 j hj6 hL kc1 ks1 (P_K19 hR hB1 u.2.2.2.2.2.1 u.2.2.2.2.2.2.2.2.2.1 u.2.2.2.2.2.2.2.2.2.2 xs j).1 hl hP hD hS (fun t1 n1 u1 H1 locs1 ls1 hu hl1 hP1 hD1 hS1 => next t1 n1 u1 H1 locs1 ls1 (by rw [hu]; exact (P_K19 hR hB1 u.2.2.2.2.2.1 u.2.2.2.2.2.2.2.2.2.1 u.2.2.2.2.2.2.2.2.2.2 xs j).2) hl1 hP1 hD1 hS1)
    · exact w_K20 l hlf G A hC qh0 va oa hih0 hsh hsa pgh0 tbh0 tbh1 nbh0 nbh1 dh0 dh1 dh2 dh3 dh4 dh5 dh6 dh7 owh odh u.1 u.2.1 u.2.2.1 u.2.2.2.1 u.2.2.2.2.1 u.2.2.2.2.2.1 u.2.2.2.2.2.2.1 u.2.2.2.2.2.2.2.1 u.2.2.2.2.2.2.2.2.1 u.2.2.2.2.2.2.2.2.2.1 u.2.2.2.2.2.2.2.2.2.2 j hj6 hL kc1 ks1 (P_K20 hR hB1 u.2.2.2.2.2.1 u.2.2.2.2.2.2.2.2.2.1 u.2.2.2.2.2.2.2.2.2.2 xs j).1 hl hP hD hS (fun t1 n1 u1 H1 locs1 ls1 hu hl1 hP1 hD1 hS1 => next t1 n1 u1 H1 locs1 ls1 (by rw [hu]; exact (P_K20 hR hB1 u.2.2.2.2.2.1 u.2.2.2.2.2.2.2.2.2.1 u.2.2.2.2.2.2.2.2.2.2 xs j).2) hl1 hP1 hD1 hS1)
    · exact w_K21 l hlf G A hC qh0 va oa hih0 hsh hsa pgh0 tbh0 tbh1 nbh0 nbh1 dh0 dh1 dh2 dh3 dh4 dh5 dh6 dh7 owh odh u.1 u.2.1 u.2.2.1 u.2.2.2.1 u.2.2.2.2.1 u.2.2.2.2.2.1 u.2.2.2.2.2.2.1 u.2.2.2.2.2.2.2.1 u.2.2.2.2.2.2.2.2.1 u.2.2.2.2.2.2.2.2.2.1 u.2.2.2.2.2.2.2.2.2.2 j hj6 hL kc1 ks1 (P_K21 hR hB1 u.2.2.2.2.2.1 u.2.2.2.2.2.2.2.2.2.1 u.2.2.2.2.2.2.2.2.2.2 xs j).1 hl hP hD hS (fun t1 n1 u1 H1 locs1 ls1 hu hl1 hP1 hD1 hS1 => next t1 n1 u1 H1 locs1 ls1 (by rw [hu]; exact (P_K21 hR hB1 u.2.2.2.2.2.1 u.2.2.2.2.2.2.2.2.2.1 u.2.2.2.2.2.2.2.2.2.2 xs j).2) hl1 hP1 hD1 hS1)
    · exact w_K22 l hlf G A hC qh0 va oa hih0 hsh hsa pgh0 tbh0 tbh1 nbh0 nbh1 dh0 dh1 dh2 dh3 dh4 dh5 dh6 dh7 owh odh u.1 u.2.1 u.2.2.1 u.2.2.2.1 u.2.2.2.2.1 u.2.2.2.2.2.1 u.2.2.2.2.2.2.1 u.2.2.2.2.2.2.2.1 u.2.2.2.2.2.2.2.2.1 u.2.2.2.2.2.2.2.2.2.1 u.2.2.2.2.2.2.2.2.2.2 j hj6 hL kc1 ks1 (P_K22 hR hB1 u.2.2.2.2.2.1 u.2.2.2.2.2.2.2.2.2.1 u.2.2.2.2.2.2.2.2.2.2 xs j).1 hl hP hD hS (fun t1 n1 u1 H1 locs1 ls1 hu hl1 hP1 hD1 hS1 => next t1 n1 u1 H1 locs1 ls1 (by rw [hu]; exact (P_K22 hR hB1 u.2.2.2.2.2.1 u.2.2.2.2.2.2.2.2.2.1 u.2.2.2.2.2.2.2.2.2.2 xs j).2) hl1 hP1 hD1 hS1)
    · exact w_K23 l hlf G A hC qh0 va oa hih0 hsh hsa pgh0 tbh0 tbh1 nbh0 nbh1 dh0 dh1 dh2 dh3 dh4 dh5 dh6 dh7 owh odh u.1 u.2.1 u.2.2.1 u.2.2.2.1 u.2.2.2.2.1 u.2.2.2.2.2.1 u.2.2.2.2.2.2.1 u.2.2.2.2.2.2.2.1 u.2.2.2.2.2.2.2.2.1 u.2.2.2.2.2.2.2.2.2.1 u.2.2.2.2.2.2.2.2.2.2 j hj6 hL kc1 ks1 (P_K23 hR hB1 u.2.2.2.2.2.1 u.2.2.2.2.2.2.2.2.2.1 u.2.2.2.2.2.2.2.2.2.2 xs j).1 hl hP hD hS (fun t1 n1 u1 H1 locs1 ls1 hu hl1 hP1 hD1 hS1 => next t1 n1 u1 H1 locs1 ls1 (by rw [hu]; exact (P_K23 hR hB1 u.2.2.2.2.2.1 u.2.2.2.2.2.2.2.2.2.1 u.2.2.2.2.2.2.2.2.2.2 xs j).2) hl1 hP1 hD1 hS1)
    · exact w_K24 l hlf G A hC qh0 va oa hih0 hsh hsa pgh0 tbh0 tbh1 nbh0 nbh1 dh0 dh1 dh2 dh3 dh4 dh5 dh6 dh7 owh odh u.1 u.2.1 u.2.2.1 u.2.2.2.1 u.2.2.2.2.1 u.2.2.2.2.2.1 u.2.2.2.2.2.2.1 u.2.2.2.2.2.2.2.1 u.2.2.2.2.2.2.2.2.1 u.2.2.2.2.2.2.2.2.2.1 u.2.2.2.2.2.2.2.2.2.2 j hj6 hL kc1 ks1 (P_K24 hR hB1 u.2.2.2.2.2.1 u.2.2.2.2.2.2.2.2.2.1 u.2.2.2.2.2.2.2.2.2.2 xs j).1 hl hP hD hS (fun t1 n1 u1 H1 locs1 ls1 hu hl1 hP1 hD1 hS1 => next t1 n1 u1 H1 locs1 ls1 (by rw [hu]; exact (P_K24 hR hB1 u.2.2.2.2.2.1 u.2.2.2.2.2.2.2.2.2.1 u.2.2.2.2.2.2.2.2.2.2 xs j).2) hl1 hP1 hD1 hS1)
    · exact w_K25 l hlf G A hC qh0 va oa hih0 hsh hsa pgh0 tbh0 tbh1 nbh0 nbh1 dh0 dh1 dh2 dh3 dh4 dh5 dh6 dh7 owh odh u.1 u.2.1 u.2.2.1 u.2.2.2.1 u.2.2.2.2.1 u.2.2.2.2.2.1 u.2.2.2.2.2.2.1 u.2.2.2.2.2.2.2.1 u.2.2.2.2.2.2.2.2.1 u.2.2.2.2.2.2.2.2.2.1 u.2.2.2.2.2.2.2.2.2.2 j hj6 hL kc1 ks1 (P_K25 hR hB1 u.2.2.2.2.2.1 u.2.2.2.2.2.2.2.2.2.1 u.2.2.2.2.2.2.2.2.2.2 xs j).1 hl hP hD hS (fun t1 n1 u1 H1 locs1 ls1 hu hl1 hP1 hD1 hS1 => next t1 n1 u1 H1 locs1 ls1 (by rw [hu]; exact (P_K25 hR hB1 u.2.2.2.2.2.1 u.2.2.2.2.2.2.2.2.2.1 u.2.2.2.2.2.2.2.2.2.2 xs j).2) hl1 hP1 hD1 hS1)
    · exact w_K26 l hlf G A hC qh0 va oa hih0 hsh hsa pgh0 tbh0 tbh1 nbh0 nbh1 dh0 dh1 dh2 dh3 dh4 dh5 dh6 dh7 owh odh u.1 u.2.1 u.2.2.1 u.2.2.2.1 u.2.2.2.2.1 u.2.2.2.2.2.1 u.2.2.2.2.2.2.1 u.2.2.2.2.2.2.2.1 u.2.2.2.2.2.2.2.2.1 u.2.2.2.2.2.2.2.2.2.1 u.2.2.2.2.2.2.2.2.2.2 j hj6 hL kc1 ks1 (P_K26 hR hB1 u.2.2.2.2.2.1 u.2.2.2.2.2.2.2.2.2.1 u.2.2.2.2.2.2.2.2.2.2 xs j).1 hl hP hD hS (fun t1 n1 u1 H1 locs1 ls1 hu hl1 hP1 hD1 hS1 => next t1 n1 u1 H1 locs1 ls1 (by rw [hu]; exact (P_K26 hR hB1 u.2.2.2.2.2.1 u.2.2.2.2.2.2.2.2.2.1 u.2.2.2.2.2.2.2.2.2.2 xs j).2) hl1 hP1 hD1 hS1)
    · exact w_K27 l hlf G A hC qh0 va oa hih0 hsh hsa pgh0 tbh0 tbh1 nbh0 nbh1 dh0 dh1 dh2 dh3 dh4 dh5 dh6 dh7 owh odh u.1 u.2.1 u.2.2.1 u.2.2.2.1 u.2.2.2.2.1 u.2.2.2.2.2.1 u.2.2.2.2.2.2.1 u.2.2.2.2.2.2.2.1 u.2.2.2.2.2.2.2.2.1 u.2.2.2.2.2.2.2.2.2.1 u.2.2.2.2.2.2.2.2.2.2 j hj6 hL kc1 ks1 (P_K27 hR hB1 u.2.2.2.2.2.1 u.2.2.2.2.2.2.2.2.2.1 u.2.2.2.2.2.2.2.2.2.2 xs j).1 hl hP hD hS (fun t1 n1 u1 H1 locs1 ls1 hu hl1 hP1 hD1 hS1 => next t1 n1 u1 H1 locs1 ls1 (by rw [hu]; exact (P_K27 hR hB1 u.2.2.2.2.2.1 u.2.2.2.2.2.2.2.2.2.1 u.2.2.2.2.2.2.2.2.2.2 xs j).2) hl1 hP1 hD1 hS1)
    · exact w_K28 l hlf G A hC qh0 va oa hih0 hsh hsa pgh0 tbh0 tbh1 nbh0 nbh1 dh0 dh1 dh2 dh3 dh4 dh5 dh6 dh7 owh odh u.1 u.2.1 u.2.2.1 u.2.2.2.1 u.2.2.2.2.1 u.2.2.2.2.2.1 u.2.2.2.2.2.2.1 u.2.2.2.2.2.2.2.1 u.2.2.2.2.2.2.2.2.1 u.2.2.2.2.2.2.2.2.2.1 u.2.2.2.2.2.2.2.2.2.2 j hj6 hL kc1 ks1 (P_K28 hR hB1 u.2.2.2.2.2.1 u.2.2.2.2.2.2.2.2.2.1 u.2.2.2.2.2.2.2.2.2.2 xs j).1 hl hP hD hS (fun t1 n1 u1 H1 locs1 ls1 hu hl1 hP1 hD1 hS1 => next t1 n1 u1 H1 locs1 ls1 (by rw [hu]; exact (P_K28 hR hB1 u.2.2.2.2.2.1 u.2.2.2.2.2.2.2.2.2.1 u.2.2.2.2.2.2.2.2.2.2 xs j).2) hl1 hP1 hD1 hS1)
    · exact w_K29 l hlf G A hC qh0 va oa hih0 hsh hsa pgh0 tbh0 tbh1 nbh0 nbh1 dh0 dh1 dh2 dh3 dh4 dh5 dh6 dh7 owh odh u.1 u.2.1 u.2.2.1 u.2.2.2.1 u.2.2.2.2.1 u.2.2.2.2.2.1 u.2.2.2.2.2.2.1 u.2.2.2.2.2.2.2.1 u.2.2.2.2.2.2.2.2.1 u.2.2.2.2.2.2.2.2.2.1 u.2.2.2.2.2.2.2.2.2.2 j hj6 hL kc1 ks1 (P_K29 hR hB1 u.2.2.2.2.2.1 u.2.2.2.2.2.2.2.2.2.1 u.2.2.2.2.2.2.2.2.2.2 xs j).1 hl hP hD hS (fun t1 n1 u1 H1 locs1 ls1 hu hl1 hP1 hD1 hS1 => next t1 n1 u1 H1 locs1 ls1 (by rw [hu]; exact (P_K29 hR hB1 u.2.2.2.2.2.1 u.2.2.2.2.2.2.2.2.2.1 u.2.2.2.2.2.2.2.2.2.2 xs j).2) hl1 hP1 hD1 hS1)
    · exact w_K30 l hlf G A hC qh0 va oa hih0 hsh hsa pgh0 tbh0 tbh1 nbh0 nbh1 dh0 dh1 dh2 dh3 dh4 dh5 dh6 dh7 owh odh u.1 u.2.1 u.2.2.1 u.2.2.2.1 u.2.2.2.2.1 u.2.2.2.2.2.1 u.2.2.2.2.2.2.1 u.2.2.2.2.2.2.2.1 u.2.2.2.2.2.2.2.2.1 u.2.2.2.2.2.2.2.2.2.1 u.2.2.2.2.2.2.2.2.2.2 j hj6 hL kc1 ks1 (P_K30 hR hB1 u.2.2.2.2.2.1 u.2.2.2.2.2.2.2.2.2.1 u.2.2.2.2.2.2.2.2.2.2 xs j).1 hl hP hD hS (fun t1 n1 u1 H1 locs1 ls1 hu hl1 hP1 hD1 hS1 => next t1 n1 u1 H1 locs1 ls1 (by rw [hu]; exact (P_K30 hR hB1 u.2.2.2.2.2.1 u.2.2.2.2.2.2.2.2.2.1 u.2.2.2.2.2.2.2.2.2.2 xs j).2) hl1 hP1 hD1 hS1)
    · exact w_K31 l hlf G A hC qh0 va oa hih0 hsh hsa pgh0 tbh0 tbh1 nbh0 nbh1 dh0 dh1 dh2 dh3 dh4 dh5 dh6 dh7 owh odh u.1 u.2.1 u.2.2.1 u.2.2.2.1 u.2.2.2.2.1 u.2.2.2.2.2.1 u.2.2.2.2.2.2.1 u.2.2.2.2.2.2.2.1 u.2.2.2.2.2.2.2.2.1 u.2.2.2.2.2.2.2.2.2.1 u.2.2.2.2.2.2.2.2.2.2 j hj6 hL kc1 ks1 (P_K31 hR hB1 u.2.2.2.2.2.1 u.2.2.2.2.2.2.2.2.2.1 u.2.2.2.2.2.2.2.2.2.2 xs j).1 hl hP hD hS (fun t1 n1 u1 H1 locs1 ls1 hu hl1 hP1 hD1 hS1 => next t1 n1 u1 H1 locs1 ls1 (by rw [hu]; exact (P_K31 hR hB1 u.2.2.2.2.2.1 u.2.2.2.2.2.2.2.2.2.1 u.2.2.2.2.2.2.2.2.2.2 xs j).2) hl1 hP1 hD1 hS1)
    · exact w_K32 l hlf G A hC qh0 va oa hih0 hsh hsa pgh0 tbh0 tbh1 nbh0 nbh1 dh0 dh1 dh2 dh3 dh4 dh5 dh6 dh7 owh odh u.1 u.2.1 u.2.2.1 u.2.2.2.1 u.2.2.2.2.1 u.2.2.2.2.2.1 u.2.2.2.2.2.2.1 u.2.2.2.2.2.2.2.1 u.2.2.2.2.2.2.2.2.1 u.2.2.2.2.2.2.2.2.2.1 u.2.2.2.2.2.2.2.2.2.2 j hj6 hL kc1 ks1 (P_K32 hR hB1 u.2.2.2.2.2.1 u.2.2.2.2.2.2.2.2.2.1 u.2.2.2.2.2.2.2.2.2.2 xs j).1 hl hP hD hS (fun t1 n1 u1 H1 locs1 ls1 hu hl1 hP1 hD1 hS1 => next t1 n1 u1 H1 locs1 ls1 (by rw [hu]; exact (P_K32 hR hB1 u.2.2.2.2.2.1 u.2.2.2.2.2.2.2.2.2.1 u.2.2.2.2.2.2.2.2.2.2 xs j).2) hl1 hP1 hD1 hS1)
    · exact w_K33 l hlf G A hC qh0 va oa hih0 hsh hsa pgh0 tbh0 tbh1 nbh0 nbh1 dh0 dh1 dh2 dh3 dh4 dh5 dh6 dh7 owh odh u.1 u.2.1 u.2.2.1 u.2.2.2.1 u.2.2.2.2.1 u.2.2.2.2.2.1 u.2.2.2.2.2.2.1 u.2.2.2.2.2.2.2.1 u.2.2.2.2.2.2.2.2.1 u.2.2.2.2.2.2.2.2.2.1 u.2.2.2.2.2.2.2.2.2.2 j hj6 hL kc1 ks1 (P_K33 hR hB1 u.2.2.2.2.2.1 u.2.2.2.2.2.2.2.2.2.1 u.2.2.2.2.2.2.2.2.2.2 xs j).1 hl hP hD hS (fun t1 n1 u1 H1 locs1 ls1 hu hl1 hP1 hD1 hS1 => next t1 n1 u1 H1 locs1 ls1 (by rw [hu]; exact (P_K33 hR hB1 u.2.2.2.2.2.1 u.2.2.2.2.2.2.2.2.2.1 u.2.2.2.2.2.2.2.2.2.2 xs j).2) hl1 hP1 hD1 hS1)
    · exact w_K34 l hlf G A hC qh0 va oa hih0 hsh hsa pgh0 tbh0 tbh1 nbh0 nbh1 dh0 dh1 dh2 dh3 dh4 dh5 dh6 dh7 owh odh u.1 u.2.1 u.2.2.1 u.2.2.2.1 u.2.2.2.2.1 u.2.2.2.2.2.1 u.2.2.2.2.2.2.1 u.2.2.2.2.2.2.2.1 u.2.2.2.2.2.2.2.2.1 u.2.2.2.2.2.2.2.2.2.1 u.2.2.2.2.2.2.2.2.2.2 j hj6 hL kc1 ks1 (P_K34 hR hB1 u.2.2.2.2.2.1 u.2.2.2.2.2.2.2.2.2.1 u.2.2.2.2.2.2.2.2.2.2 xs j).1 hl hP hD hS (fun t1 n1 u1 H1 locs1 ls1 hu hl1 hP1 hD1 hS1 => next t1 n1 u1 H1 locs1 ls1 (by rw [hu]; exact (P_K34 hR hB1 u.2.2.2.2.2.1 u.2.2.2.2.2.2.2.2.2.1 u.2.2.2.2.2.2.2.2.2.2 xs j).2) hl1 hP1 hD1 hS1)
    · exact w_K35 l hlf G A hC qh0 va oa hih0 hsh hsa pgh0 tbh0 tbh1 nbh0 nbh1 dh0 dh1 dh2 dh3 dh4 dh5 dh6 dh7 owh odh u.1 u.2.1 u.2.2.1 u.2.2.2.1 u.2.2.2.2.1 u.2.2.2.2.2.1 u.2.2.2.2.2.2.1 u.2.2.2.2.2.2.2.1 u.2.2.2.2.2.2.2.2.1 u.2.2.2.2.2.2.2.2.2.1 u.2.2.2.2.2.2.2.2.2.2 j hj6 hL kc1 ks1 (P_K35 hR hB1 u.2.2.2.2.2.1 u.2.2.2.2.2.2.2.2.2.1 u.2.2.2.2.2.2.2.2.2.2 xs j).1 hl hP hD hS (fun t1 n1 u1 H1 locs1 ls1 hu hl1 hP1 hD1 hS1 => next t1 n1 u1 H1 locs1 ls1 (by rw [hu]; exact (P_K35 hR hB1 u.2.2.2.2.2.1 u.2.2.2.2.2.2.2.2.2.1 u.2.2.2.2.2.2.2.2.2.2 xs j).2) hl1 hP1 hD1 hS1)
    · exact w_K36 l hlf G A hC qh0 va oa hih0 hsh hsa pgh0 tbh0 tbh1 nbh0 nbh1 dh0 dh1 dh2 dh3 dh4 dh5 dh6 dh7 owh odh u.1 u.2.1 u.2.2.1 u.2.2.2.1 u.2.2.2.2.1 u.2.2.2.2.2.1 u.2.2.2.2.2.2.1 u.2.2.2.2.2.2.2.1 u.2.2.2.2.2.2.2.2.1 u.2.2.2.2.2.2.2.2.2.1 u.2.2.2.2.2.2.2.2.2.2 j hj6 hL kc1 ks1 (P_K36 hR hB1 u.2.2.2.2.2.1 u.2.2.2.2.2.2.2.2.2.1 u.2.2.2.2.2.2.2.2.2.2 xs j).1 hl hP hD hS (fun t1 n1 u1 H1 locs1 ls1 hu hl1 hP1 hD1 hS1 => next t1 n1 u1 H1 locs1 ls1 (by rw [hu]; exact (P_K36 hR hB1 u.2.2.2.2.2.1 u.2.2.2.2.2.2.2.2.2.1 u.2.2.2.2.2.2.2.2.2.2 xs j).2) hl1 hP1 hD1 hS1)
    · exact w_K37 l hlf G A hC qh0 va oa hih0 hsh hsa pgh0 tbh0 tbh1 nbh0 nbh1 dh0 dh1 dh2 dh3 dh4 dh5 dh6 dh7 owh odh u.1 u.2.1 u.2.2.1 u.2.2.2.1 u.2.2.2.2.1 u.2.2.2.2.2.1 u.2.2.2.2.2.2.1 u.2.2.2.2.2.2.2.1 u.2.2.2.2.2.2.2.2.1 u.2.2.2.2.2.2.2.2.2.1 u.2.2.2.2.2.2.2.2.2.2 j hj6 hL kc1 ks1 (P_K37 hR hB1 u.2.2.2.2.2.1 u.2.2.2.2.2.2.2.2.2.1 u.2.2.2.2.2.2.2.2.2.2 xs j).1 hl hP hD hS (fun t1 n1 u1 H1 locs1 ls1 hu hl1 hP1 hD1 hS1 => next t1 n1 u1 H1 locs1 ls1 (by rw [hu]; exact (P_K37 hR hB1 u.2.2.2.2.2.1 u.2.2.2.2.2.2.2.2.2.1 u.2.2.2.2.2.2.2.2.2.2 xs j).2) hl1 hP1 hD1 hS1)
    · exact w_K38 l hlf G A hC qh0 va oa hih0 hsh hsa pgh0 tbh0 tbh1 nbh0 nbh1 dh0 dh1 dh2 dh3 dh4 dh5 dh6 dh7 owh odh u.1 u.2.1 u.2.2.1 u.2.2.2.1 u.2.2.2.2.1 u.2.2.2.2.2.1 u.2.2.2.2.2.2.1 u.2.2.2.2.2.2.2.1 u.2.2.2.2.2.2.2.2.1 u.2.2.2.2.2.2.2.2.2.1 u.2.2.2.2.2.2.2.2.2.2 j hj6 hL kc1 ks1 (P_K38 hR hB1 u.2.2.2.2.2.1 u.2.2.2.2.2.2.2.2.2.1 u.2.2.2.2.2.2.2.2.2.2 xs j).1 hl hP hD hS (fun t1 n1 u1 H1 locs1 ls1 hu hl1 hP1 hD1 hS1 => next t1 n1 u1 H1 locs1 ls1 (by rw [hu]; exact (P_K38 hR hB1 u.2.2.2.2.2.1 u.2.2.2.2.2.2.2.2.2.1 u.2.2.2.2.2.2.2.2.2.2 xs j).2) hl1 hP1 hD1 hS1)
    · exact w_K39 l hlf G A hC qh0 va oa hih0 hsh hsa pgh0 tbh0 tbh1 nbh0 nbh1 dh0 dh1 dh2 dh3 dh4 dh5 dh6 dh7 owh odh u.1 u.2.1 u.2.2.1 u.2.2.2.1 u.2.2.2.2.1 u.2.2.2.2.2.1 u.2.2.2.2.2.2.1 u.2.2.2.2.2.2.2.1 u.2.2.2.2.2.2.2.2.1 u.2.2.2.2.2.2.2.2.2.1 u.2.2.2.2.2.2.2.2.2.2 j hj6 hL kc1 ks1 (P_K39 hR hB1 u.2.2.2.2.2.1 u.2.2.2.2.2.2.2.2.2.1 u.2.2.2.2.2.2.2.2.2.2 xs j).1 hl hP hD hS (fun t1 n1 u1 H1 locs1 ls1 hu hl1 hP1 hD1 hS1 => next t1 n1 u1 H1 locs1 ls1 (by rw [hu]; exact (P_K39 hR hB1 u.2.2.2.2.2.1 u.2.2.2.2.2.2.2.2.2.1 u.2.2.2.2.2.2.2.2.2.2 xs j).2) hl1 hP1 hD1 hS1)
    · exact w_K40 l hlf G A hC qh0 va oa hih0 hsh hsa pgh0 tbh0 tbh1 nbh0 nbh1 dh0 dh1 dh2 dh3 dh4 dh5 dh6 dh7 owh odh u.1 u.2.1 u.2.2.1 u.2.2.2.1 u.2.2.2.2.1 u.2.2.2.2.2.1 u.2.2.2.2.2.2.1 u.2.2.2.2.2.2.2.1 u.2.2.2.2.2.2.2.2.1 u.2.2.2.2.2.2.2.2.2.1 u.2.2.2.2.2.2.2.2.2.2 j hj6 hL kc1 ks1 (P_K40 hR hB1 u.2.2.2.2.2.1 u.2.2.2.2.2.2.2.2.2.1 u.2.2.2.2.2.2.2.2.2.2 xs j).1 hl hP hD hS (fun t1 n1 u1 H1 locs1 ls1 hu hl1 hP1 hD1 hS1 => next t1 n1 u1 H1 locs1 ls1 (by rw [hu]; exact (P_K40 hR hB1 u.2.2.2.2.2.1 u.2.2.2.2.2.2.2.2.2.1 u.2.2.2.2.2.2.2.2.2.2 xs j).2) hl1 hP1 hD1 hS1)
    · exact w_K41 l hlf G A hC qh0 va oa hih0 hsh hsa pgh0 tbh0 tbh1 nbh0 nbh1 dh0 dh1 dh2 dh3 dh4 dh5 dh6 dh7 owh odh u.1 u.2.1 u.2.2.1 u.2.2.2.1 u.2.2.2.2.1 u.2.2.2.2.2.1 u.2.2.2.2.2.2.1 u.2.2.2.2.2.2.2.1 u.2.2.2.2.2.2.2.2.1 u.2.2.2.2.2.2.2.2.2.1 u.2.2.2.2.2.2.2.2.2.2 j hj6 hL kc1 ks1 (P_K41 hR hB1 u.2.2.2.2.2.1 u.2.2.2.2.2.2.2.2.2.1 u.2.2.2.2.2.2.2.2.2.2 xs j).1 hl hP hD hS (fun t1 n1 u1 H1 locs1 ls1 hu hl1 hP1 hD1 hS1 => next t1 n1 u1 H1 locs1 ls1 (by rw [hu]; exact (P_K41 hR hB1 u.2.2.2.2.2.1 u.2.2.2.2.2.2.2.2.2.1 u.2.2.2.2.2.2.2.2.2.2 xs j).2) hl1 hP1 hD1 hS1)
    · exact w_K42 l hlf G A hC qh0 va oa hih0 hsh hsa pgh0 tbh0 tbh1 nbh0 nbh1 dh0 dh1 dh2 dh3 dh4 dh5 dh6 dh7 owh odh u.1 u.2.1 u.2.2.1 u.2.2.2.1 u.2.2.2.2.1 u.2.2.2.2.2.1 u.2.2.2.2.2.2.1 u.2.2.2.2.2.2.2.1 u.2.2.2.2.2.2.2.2.1 u.2.2.2.2.2.2.2.2.2.1 u.2.2.2.2.2.2.2.2.2.2 j hj6 hL kc1 ks1 (P_K42 hR hB1 u.2.2.2.2.2.1 u.2.2.2.2.2.2.2.2.2.1 u.2.2.2.2.2.2.2.2.2.2 xs j).1 hl hP hD hS (fun t1 n1 u1 H1 locs1 ls1 hu hl1 hP1 hD1 hS1 => next t1 n1 u1 H1 locs1 ls1 (by rw [hu]; exact (P_K42 hR hB1 u.2.2.2.2.2.1 u.2.2.2.2.2.2.2.2.2.1 u.2.2.2.2.2.2.2.2.2.2 xs j).2) hl1 hP1 hD1 hS1)
    · exact w_K43 l hlf G A hC qh0 va oa hih0 hsh hsa pgh0 tbh0 tbh1 nbh0 nbh1 dh0 dh1 dh2 dh3 dh4 dh5 dh6 dh7 owh odh u.1 u.2.1 u.2.2.1 u.2.2.2.1 u.2.2.2.2.1 u.2.2.2.2.2.1 u.2.2.2.2.2.2.1 u.2.2.2.2.2.2.2.1 u.2.2.2.2.2.2.2.2.1 u.2.2.2.2.2.2.2.2.2.1 u.2.2.2.2.2.2.2.2.2.2 j hj6 hL kc1 ks1 (P_K43 hR hB1 u.2.2.2.2.2.1 u.2.2.2.2.2.2.2.2.2.1 u.2.2.2.2.2.2.2.2.2.2 xs j).1 hl hP hD hS (fun t1 n1 u1 H1 locs1 ls1 hu hl1 hP1 hD1 hS1 => next t1 n1 u1 H1 locs1 ls1 (by rw [hu]; exact (P_K43 hR hB1 u.2.2.2.2.2.1 u.2.2.2.2.2.2.2.2.2.1 u.2.2.2.2.2.2.2.2.2.2 xs j).2) hl1 hP1 hD1 hS1)
    · exact w_K44 l hlf G A hC qh0 va oa hih0 hsh hsa pgh0 tbh0 tbh1 nbh0 nbh1 dh0 dh1 dh2 dh3 dh4 dh5 dh6 dh7 owh odh u.1 u.2.1 u.2.2.1 u.2.2.2.1 u.2.2.2.2.1 u.2.2.2.2.2.1 u.2.2.2.2.2.2.1 u.2.2.2.2.2.2.2.1 u.2.2.2.2.2.2.2.2.1 u.2.2.2.2.2.2.2.2.2.1 u.2.2.2.2.2.2.2.2.2.2 j hj6 hL kc1 ks1 (P_K44 hR hB1 u.2.2.2.2.2.1 u.2.2.2.2.2.2.2.2.2.1 u.2.2.2.2.2.2.2.2.2.2 xs j).1 hl hP hD hS (fun t1 n1 u1 H1 locs1 ls1 hu hl1 hP1 hD1 hS1 => next t1 n1 u1 H1 locs1 ls1 (by rw [hu]; exact (P_K44 hR hB1 u.2.2.2.2.2.1 u.2.2.2.2.2.2.2.2.2.1 u.2.2.2.2.2.2.2.2.2.2 xs j).2) hl1 hP1 hD1 hS1)
    · exact w_K45 l hlf G A hC qh0 va oa hih0 hsh hsa pgh0 tbh0 tbh1 nbh0 nbh1 dh0 dh1 dh2 dh3 dh4 dh5 dh6 dh7 owh odh u.1 u.2.1 u.2.2.1 u.2.2.2.1 u.2.2.2.2.1 u.2.2.2.2.2.1 u.2.2.2.2.2.2.1 u.2.2.2.2.2.2.2.1 u.2.2.2.2.2.2.2.2.1 u.2.2.2.2.2.2.2.2.2.1 u.2.2.2.2.2.2.2.2.2.2 j hj6 hL kc1 ks1 (P_K45 hR hB1 u.2.2.2.2.2.1 u.2.2.2.2.2.2.2.2.2.1 u.2.2.2.2.2.2.2.2.2.2 xs j).1 hl hP hD hS (fun t1 n1 u1 H1 locs1 ls1 hu hl1 hP1 hD1 hS1 => next t1 n1 u1 H1 locs1 ls1 (by rw [hu]; exact (P_K45 hR hB1 u.2.2.2.2.2.1 u.2.2.2.2.2.2.2.2.2.1 u.2.2.2.2.2.2.2.2.2.2 xs j).2) hl1 hP1 hD1 hS1)
    · exact w_K46 l hlf G A hC qh0 va oa hih0 hsh hsa pgh0 tbh0 tbh1 nbh0 nbh1 dh0 dh1 dh2 dh3 dh4 dh5 dh6 dh7 owh odh u.1 u.2.1 u.2.2.1 u.2.2.2.1 u.2.2.2.2.1 u.2.2.2.2.2.1 u.2.2.2.2.2.2.1 u.2.2.2.2.2.2.2.1 u.2.2.2.2.2.2.2.2.1 u.2.2.2.2.2.2.2.2.2.1 u.2.2.2.2.2.2.2.2.2.2 j hj6 hL kc1 ks1 (P_K46 hR hB1 u.2.2.2.2.2.1 u.2.2.2.2.2.2.2.2.2.1 u.2.2.2.2.2.2.2.2.2.2 xs j).1 hl hP hD hS (fun t1 n1 u1 H1 locs1 ls1 hu hl1 hP1 hD1 hS1 => next t1 n1 u1 H1 locs1 ls1 (by rw [hu]; exact (P_K46 hR hB1 u.2.2.2.2.2.1 u.2.2.2.2.2.2.2.2.2.1 u.2.2.2.2.2.2.2.2.2.2 xs j).2) hl1 hP1 hD1 hS1)
    · exact w_K47 l hlf G A hC qh0 va oa hih0 hsh hsa pgh0 tbh0 tbh1 nbh0 nbh1 dh0 dh1 dh2 dh3 dh4 dh5 dh6 dh7 owh odh u.1 u.2.1 u.2.2.1 u.2.2.2.1 u.2.2.2.2.1 u.2.2.2.2.2.1 u.2.2.2.2.2.2.1 u.2.2.2.2.2.2.2.1 u.2.2.2.2.2.2.2.2.1 u.2.2.2.2.2.2.2.2.2.1 u.2.2.2.2.2.2.2.2.2.2 j hj6 hL kc1 ks1 (P_K47 hR hB1 u.2.2.2.2.2.1 u.2.2.2.2.2.2.2.2.2.1 u.2.2.2.2.2.2.2.2.2.2 xs j).1 hl hP hD hS (fun t1 n1 u1 H1 locs1 ls1 hu hl1 hP1 hD1 hS1 => next t1 n1 u1 H1 locs1 ls1 (by rw [hu]; exact (P_K47 hR hB1 u.2.2.2.2.2.1 u.2.2.2.2.2.2.2.2.2.1 u.2.2.2.2.2.2.2.2.2.2 xs j).2) hl1 hP1 hD1 hS1)
    · exact w_K48 l hlf G A hC qh0 va oa hih0 hsh hsa pgh0 tbh0 tbh1 nbh0 nbh1 dh0 dh1 dh2 dh3 dh4 dh5 dh6 dh7 owh odh u.1 u.2.1 u.2.2.1 u.2.2.2.1 u.2.2.2.2.1 u.2.2.2.2.2.1 u.2.2.2.2.2.2.1 u.2.2.2.2.2.2.2.1 u.2.2.2.2.2.2.2.2.1 u.2.2.2.2.2.2.2.2.2.1 u.2.2.2.2.2.2.2.2.2.2 j hj6 hL kc1 ks1 (P_K48 hR hB1 u.2.2.2.2.2.1 u.2.2.2.2.2.2.2.2.2.1 u.2.2.2.2.2.2.2.2.2.2 xs j).1 hl hP hD hS (fun t1 n1 u1 H1 locs1 ls1 hu hl1 hP1 hD1 hS1 => next t1 n1 u1 H1 locs1 ls1 (by rw [hu]; exact (P_K48 hR hB1 u.2.2.2.2.2.1 u.2.2.2.2.2.2.2.2.2.1 u.2.2.2.2.2.2.2.2.2.2 xs j).2) hl1 hP1 hD1 hS1)
    · exact w_K49 l hlf G A hC qh0 va oa hih0 hsh hsa pgh0 tbh0 tbh1 nbh0 nbh1 dh0 dh1 dh2 dh3 dh4 dh5 dh6 dh7 owh odh u.1 u.2.1 u.2.2.1 u.2.2.2.1 u.2.2.2.2.1 u.2.2.2.2.2.1 u.2.2.2.2.2.2.1 u.2.2.2.2.2.2.2.1 u.2.2.2.2.2.2.2.2.1 u.2.2.2.2.2.2.2.2.2.1 u.2.2.2.2.2.2.2.2.2.2 j hj6 hL kc1 ks1 (P_K49 hR hB1 u.2.2.2.2.2.1 u.2.2.2.2.2.2.2.2.2.1 u.2.2.2.2.2.2.2.2.2.2 xs j).1 hl hP hD hS (fun t1 n1 u1 H1 locs1 ls1 hu hl1 hP1 hD1 hS1 => next t1 n1 u1 H1 locs1 ls1 (by rw [hu]; exact (P_K49 hR hB1 u.2.2.2.2.2.1 u.2.2.2.2.2.2.2.2.2.1 u.2.2.2.2.2.2.2.2.2.2 xs j).2) hl1 hP1 hD1 hS1)
    · exact w_K50 l hlf G A hC qh0 va oa hih0 hsh hsa pgh0 tbh0 tbh1 nbh0 nbh1 dh0 dh1 dh2 dh3 dh4 dh5 dh6 dh7 owh odh u.1 u.2.1 u.2.2.1 u.2.2.2.1 u.2.2.2.2.1 u.2.2.2.2.2.1 u.2.2.2.2.2.2.1 u.2.2.2.2.2.2.2.1 u.2.2.2.2.2.2.2.2.1 u.2.2.2.2.2.2.2.2.2.1 u.2.2.2.2.2.2.2.2.2.2 j hj6 hL kc1 ks1 (P_K50 hR hB1 u.2.2.2.2.2.1 u.2.2.2.2.2.2.2.2.2.1 u.2.2.2.2.2.2.2.2.2.2 xs j).1 hl hP hD hS (fun t1 n1 u1 H1 locs1 ls1 hu hl1 hP1 hD1 hS1 => next t1 n1 u1 H1 locs1 ls1 (by rw [hu]; exact (P_K50 hR hB1 u.2.2.2.2.2.1 u.2.2.2.2.2.2.2.2.2.1 u.2.2.2.2.2.2.2.2.2.2 xs j).2) hl1 hP1 hD1 hS1)
