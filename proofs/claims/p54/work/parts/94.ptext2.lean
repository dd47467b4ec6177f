/-! ===== texts that the law makes: signs from 32 to 126, and how many ===== -/
def TW (sb : SbV) (n : Nat) : Prop := ∃ m : Nat, m ≤ n ∧ cap3 sb.1 ∧ m ≤ sb.1 ∧ sb.2.2.2 = nI m ∧ (∀ i, i < sb.1 → ∃ c, c < 128 ∧ sb.2.1 i = nI c) ∧ ∀ i, i < m → ∃ c, 32 ≤ c ∧ c ≤ 126 ∧ sb.2.1 i = nI c
def TJ (tj : TxV) (n : Nat) : Prop := tj.1 ≤ n ∧ ∀ i, i < tj.1 → ∃ c, 32 ≤ c ∧ c ≤ 126 ∧ tj.2 i = nI c
theorem tw_Z : TW sbZ 0 := ⟨0, Nat.le_refl 0, Or.inl rfl, Nat.zero_le _, rfl, fun i hi => ⟨0, by omega, rfl⟩, fun i hi => absurd hi (Nat.not_lt_zero i)⟩
/-- a row of signs put behind what is there -/
theorem tw_put {sb sb' : SbV} {m L : Nat} (e2 : cap3 sb'.1) (e3 : m + L ≤ sb'.1) (e7 : ∀ i, i < sb.1 → sb'.2.1 i = sb.2.1 i) (e8 : ∀ i, i < sb'.1 → ∃ c, c < 128 ∧ sb'.2.1 i = nI c) (hm : m ≤ sb.1) (h6 : ∀ i, i < m → ∃ c, 32 ≤ c ∧ c ≤ 126 ∧ sb.2.1 i = nI c) (f : Nat → Int32) (hf : ∀ i, i < L → ∃ c, 32 ≤ c ∧ c ≤ 126 ∧ f i = nI c) {n : Nat} (hn : m + L ≤ n) (z : Int32) : TW (sb'.1, va_cpy f sb'.2.1 0 m L, z, nI (m + L)) n := by
  refine ⟨m + L, hn, e2, e3, rfl, fun i hi => ?_, fun i hi => ?_⟩
  · show ∃ c, c < 128 ∧ (if m ≤ i ∧ i < m + L then f (0 + (i - m)) else sb'.2.1 i) = nI c
    by_cases g : m ≤ i ∧ i < m + L
    · rw [if_pos g]
      obtain ⟨c, c1, c2, c3⟩ := hf (0 + (i - m)) (by omega)
      exact ⟨c, by omega, c3⟩
    · rw [if_neg g]; exact e8 i hi
  · show ∃ c, 32 ≤ c ∧ c ≤ 126 ∧ (if m ≤ i ∧ i < m + L then f (0 + (i - m)) else sb'.2.1 i) = nI c
    by_cases g : m ≤ i
    · rw [if_pos ⟨g, hi⟩]; exact hf _ (by omega)
    · rw [if_neg (fun w => g w.1), e7 i (by omega)]; exact h6 i (by omega)
theorem str_ok : ∀ j, 17 ≤ j → j < 26 → (∀ i, i < (strL.getD j []).length → (32 ≤ (strL.getD j []).getD i 0 ∧ (strL.getD j []).getD i 0 ≤ 126)) ∧ (strL.getD j []).length ≤ 7 := by
  intro j h1 h2
  rcases (by omega : j = 17 ∨ j = 18 ∨ j = 19 ∨ j = 20 ∨ j = 21 ∨ j = 22 ∨ j = 23 ∨ j = 24 ∨ j = 25) with e | e | e | e | e | e | e | e | e <;> subst e <;> decide +kernel
theorem tw_str {sb : SbV} {n : Nat} (h : TW sb n) {j L : Nat} (h1 : 17 ≤ j) (h2 : j < 26) (hL : (strL.getD j []).length = L) (hn : n + L ≤ 34) : ok_J4_append_15ec4 sb j ∧ TW (f_J4_append_15ec4 sb j) (n + L) := by
  obtain ⟨m, g1, g2, g3, g4, g5, g6⟩ := h
  have hN : 16 ≤ sb.1 ∧ sb.1 ≤ 70 := by unfold cap3 at g2; omega
  obtain ⟨s1, s2⟩ := str_ok j h1 h2
  obtain ⟨o1, sb', e1, e2, e3, e4, e5, e6, e7, e8⟩ := ens_spec (sb := sb) (X := m + L) g2 (by omega) (by omega) g5
  have hN' : 16 ≤ sb'.1 ∧ sb'.1 ≤ 70 := by unfold cap3 at e2; omega
  have eq2 : nI m + f_J0_length_8abf5 j = nI (m + L) := by
    unfold f_J0_length_8abf5
    rw [hL, nI_add]
  have eb : f_J0_getBytes_840e7 j sb'.1 sb'.2.1 (nI m) 0 = va_cpy (fun i => nI ((strL.getD j []).getD i 0)) sb'.2.1 0 m L ∧ ok_J0_getBytes_840e7 j sb'.1 sb'.2.1 (nI m) 0 := by
    have z : nI m <<< ((0 : Int32) &&& 31) = nI m := sb_shl0 _
    unfold f_J0_getBytes_840e7 ok_J0_getBytes_840e7
    rw [if_pos rfl, if_pos rfl, z, nI_clamp (by omega), hL, nI_clamp (by omega)]
    refine ⟨rfl, nI_pos (by omega), nI_pos (by omega), ?_, ?_, ?_, trivial⟩
    · show 0 + L ≤ L; omega
    · exact e3
    · intro i hi
      have := s1 (0 + i) (by omega)
      exact by_fit _ (by show (strL.getD j []).getD (0 + i) 0 < 128; omega)
  unfold ok_J4_append_15ec4 f_J4_append_15ec4 ok_J5_append_cf1ce f_J5_append_cf1ce ok_J5_putStringAt_47b60 f_J5_putStringAt_47b60
  simp only [g4, eq2, e1, e6, eb.1]
  refine ⟨⟨⟨o1, ⟨eb.2, by omega, trivial⟩, trivial⟩, trivial⟩, ?_⟩
  refine tw_put e2 e3 e7 e8 g3 g6 _ (fun i hi => ⟨_, (s1 i (by omega)).1, (s1 i (by omega)).2, rfl⟩) (by omega) _
theorem tw_txt {sb : SbV} {n : Nat} (h : TW sb n) {tj : TxV} {k : Nat} (ht : TJ tj k) (hn : n + k ≤ 34) : ok_J4_append_15ec4T sb tj ∧ TW (f_J4_append_15ec4T sb tj) (n + k) := by
  obtain ⟨m, g1, g2, g3, g4, g5, g6⟩ := h
  obtain ⟨t1, t2⟩ := ht
  have hN : 16 ≤ sb.1 ∧ sb.1 ≤ 70 := by unfold cap3 at g2; omega
  obtain ⟨o1, sb', e1, e2, e3, e4, e5, e6, e7, e8⟩ := ens_spec (sb := sb) (X := m + tj.1) g2 (by omega) (by omega) g5
  have hN' : 16 ≤ sb'.1 ∧ sb'.1 ≤ 70 := by unfold cap3 at e2; omega
  have eq2 : nI m + f_J0_length_8abf5T tj = nI (m + tj.1) := by
    unfold f_J0_length_8abf5T
    rw [nI_add]
  have eb : f_J0_getBytes_840e7T tj sb'.1 sb'.2.1 (nI m) 0 = va_cpy tj.2 sb'.2.1 0 m tj.1 ∧ ok_J0_getBytes_840e7T tj sb'.1 sb'.2.1 (nI m) 0 := by
    have z : nI m <<< ((0 : Int32) &&& 31) = nI m := sb_shl0 _
    unfold f_J0_getBytes_840e7T ok_J0_getBytes_840e7T
    rw [if_pos rfl, if_pos rfl, z, nI_clamp (by omega), nI_clamp (by omega)]
    refine ⟨rfl, nI_pos (by omega), nI_pos (by omega), ?_, ?_, ?_, trivial⟩
    · show 0 + tj.1 ≤ tj.1; omega
    · exact e3
    · intro i hi
      obtain ⟨c, c1, c2, c3⟩ := t2 (0 + i) (by omega)
      have e : tj.2 ((0 : Int32).toNatClampNeg + i) = nI c := c3
      rw [e]
      exact by_fit c (by omega)
  unfold ok_J4_append_15ec4T f_J4_append_15ec4T ok_J5_append_cf1ceT f_J5_append_cf1ceT ok_J5_putStringAt_47b60T f_J5_putStringAt_47b60T
  simp only [g4, eq2, e1, e6, eb.1]
  refine ⟨⟨⟨o1, ⟨eb.2, by omega, trivial⟩, trivial⟩, trivial⟩, ?_⟩
  exact tw_put e2 e3 e7 e8 g3 g6 _ t2 (by omega) _
theorem tw_toS {sb : SbV} {n : Nat} (h : TW sb n) (hn : n ≤ 70) : ok_J4_toString_0e30d sb ∧ TJ (f_J4_toString_0e30d sb) n := by
  obtain ⟨m, g1, g2, g3, g4, g5, g6⟩ := h
  have hN : 16 ≤ sb.1 ∧ sb.1 ≤ 70 := by unfold cap3 at g2; omega
  have el : f_J4_length_8abf5 sb = nI m := g4
  have fit : ∀ i, i < sb.1 → fits .byte (.int (sb.2.1 i)) = true := fun i hi => by
    obtain ⟨c, c1, c2⟩ := g5 i hi
    rw [c2]; exact by_fit c c1
  have K : ok_J7_copyOfRange_39247 sb.1 sb.2.1 0 (nI m) ∧ TJ (f_J7_copyOfRange_39247 sb.1 sb.2.1 0 (nI m)) n := by
    unfold ok_J7_copyOfRange_39247 f_J7_copyOfRange_39247
    rw [if_pos rfl, if_pos rfl]
    by_cases g : nI m = nI sb.1
    · rw [if_pos g, if_pos g]
      have em : m = sb.1 := (nI_eq (by omega) (by omega)).mp g
      subst em
      exact ⟨⟨fit, by omega, trivial⟩, g1, g6⟩
    · rw [if_neg g, if_neg g]
      have z1 : nI m - 0 = nI m := by rw [show (0 : Int32) = nI 0 from rfl, pk_sub (Nat.zero_le m), Nat.sub_zero]
      have z2 : nI sb.1 - 0 = nI sb.1 := by rw [show (0 : Int32) = nI 0 from rfl, pk_sub (Nat.zero_le _), Nat.sub_zero]
      have z3 : f_J9_min_7cf53 (nI sb.1) (nI m) = nI m := by rw [n_min (by omega) (by omega), show min sb.1 m = m by omega]
      have E : f_J7_copyOfRangeByte_39247 sb.1 sb.2.1 0 (nI m) = (m, va_cpy sb.2.1 (fun _ => 0) 0 0 m) := by
        unfold f_J7_copyOfRangeByte_39247
        rw [z1, z2, z3, nI_clamp (by omega)]
        rfl
      rw [E]
      refine ⟨⟨?_, trivial⟩, g1, fun i hi => ?_⟩
      · unfold ok_J7_copyOfRangeByte_39247 ok_J7_checkLength_df160
        rw [z1, z2, z3, nI_clamp (by omega), if_pos (nI_pos' (by omega))]
        refine ⟨trivial, nI_pos (by omega), by omega, by decide, nI_pos (by omega), ?_, ?_, fun i hi => ?_, trivial⟩
        · show 0 + m ≤ sb.1; omega
        · show 0 + m ≤ m; omega
        · exact fit _ (by show 0 + i < sb.1; omega)
      · show ∃ c, 32 ≤ c ∧ c ≤ 126 ∧ (if 0 ≤ i ∧ i < 0 + m then sb.2.1 (0 + (i - 0)) else 0) = nI c
        have hi : i < m := hi
        rw [if_pos (by omega), show 0 + (i - 0) = i by omega]
        exact g6 i hi
  unfold ok_J4_toString_0e30d f_J4_toString_0e30d ok_J0_init_81219 f_J0_init_81219 ok_J0_init_db425 f_J0_init_db425
  rw [el]
  exact ⟨⟨⟨⟨K.1, by omega, trivial⟩, trivial⟩, trivial⟩, K.2⟩
/-! numbers below 10000 -/
def dg (a b : Nat) : Nat := if a = 0 then (if b < 10 then 1 else 2) else if a < 10 then 3 else 4
theorem dg_ss : ∀ a, a < 100 → ∀ b, b < 100 → f_J6_stringSize_0f7a4 (nI (100 * a + b)) = nI (dg a b) := by decide +kernel
theorem dg_ok (x : Int32) : ∀ k, k ≤ 9 → ∀ p, okl_lp_J6_stringSize_0f7a4_16' x (k + 1) (nI (10 - k)) p := by
  intro k
  induction k with
  | zero => intro _ p; unfold okl_lp_J6_stringSize_0f7a4_16'; rw [if_pos (by decide)]; trivial
  | succ k ih =>
    intro hk p
    unfold okl_lp_J6_stringSize_0f7a4_16'
    rw [show (10 : Int32) = nI 10 from rfl, if_neg (nI_ge (by omega) (by decide))]
    split
    · rw [nI_1, show 10 - (k + 1) + 1 = 10 - k by omega]
      exact ih (by omega) _
    · trivial
theorem gc_1 : ∀ a, a < 100 → 1 ≤ a → ∀ b, b < 100 → ¬ ((-100 : Int32) < -nI (100 * a + b)) ∧ -nI (100 * a + b) / (100 : Int32) = -nI a ∧ -nI (100 * a + b) / (100 : Int32) * 100 - -nI (100 * a + b) = nI b := by decide +kernel
theorem gc_l (x Y : Int32) (N : Nat) (ry : Nat → Int32) {w z n : Nat} (g : Nat → Int32) (hw : w < 100) (hz : (if w < 10 then 1 else 2) ≤ z) (hzn : z ≤ N) (hN : N ≤ 70) : okl_lp_J6_getChars_ba4f3_22 x Y N ry (n + 1) (-nI w) (nI z) g ∧ ∃ g', (lp_J6_getChars_ba4f3_22 x Y N ry (n + 1) (-nI w) (nI z) g).2 = g' ∧ (∀ i, i + (if w < 10 then 1 else 2) < z ∨ z ≤ i → g' i = g i) ∧ ∀ i, z ≤ i + (if w < 10 then 1 else 2) → i < z → ∃ c, 48 ≤ c ∧ c ≤ 57 ∧ g' i = nI c := by
  obtain ⟨g1, g2, g3, g4, g5⟩ := gc_num w hw
  have nx : -(-nI w) = nI w := by rw [Int32.neg_neg]
  have i1 : vp_in (-(-nI w)) 100 := by rw [nx]; exact vp_in_nI hw (by decide)
  unfold okl_lp_J6_getChars_ba4f3_22 lp_J6_getChars_ba4f3_22
  rw [if_pos g1, if_pos g1, g2, g4, g5]
  by_cases h : w < 10
  · rw [if_pos h] at hz
    have e1 : nI z + (-1) = nI (z - 1) := sb_m1 (by omega)
    simp only [if_pos (g3.mpr h), e1, nI_clamp (show z - 1 < 2 ^ 31 by omega), if_pos h]
    refine ⟨⟨i1, vp_in_nI (by omega) (by omega), trivial⟩, _, rfl, fun i hi => upd_ne _ _ (by omega), fun i h1 h2 => ?_⟩
    rw [show i = z - 1 by omega, upd_eq]
    exact ⟨48 + w % 10, by omega, by omega, rfl⟩
  · rw [if_neg h] at hz
    have e1 : nI z + (-1) = nI (z - 1) := sb_m1 (by omega)
    have e2 : nI (z - 1) + (-1) = nI (z - 2) := by rw [sb_m1 (by omega), show z - 1 - 1 = z - 2 by omega]
    simp only [if_neg (fun q => h (g3.mp q)), e1, e2, nI_clamp (show z - 1 < 2 ^ 31 by omega), nI_clamp (show z - 2 < 2 ^ 31 by omega), if_neg h]
    refine ⟨⟨i1, vp_in_nI (by omega) (by omega), i1, vp_in_nI (by omega) (by omega), trivial⟩, _, rfl, fun i hi => ?_, fun i h1 h2 => ?_⟩
    · rw [upd_ne _ _ (by omega), upd_ne _ _ (by omega)]
    · by_cases e : i = z - 2
      · subst e; rw [upd_eq]; exact ⟨48 + w / 10, by omega, by omega, rfl⟩
      · rw [upd_ne _ _ e, show i = z - 1 by omega, upd_eq]; exact ⟨48 + w % 10, by omega, by omega, rfl⟩
theorem gc_2 : ∀ b, b < 100 → (nI b).toNatClampNeg = b ∧ vp_in (nI b) 100 := fun b hb => ⟨nI_clamp (by omega), vp_in_nI hb (by decide)⟩
theorem gc_4 {a b z N : Nat} (f : Nat → Int32) (ha : a < 100) (hb : b < 100) (hz : dg a b ≤ z) (hzn : z ≤ N) (hN : N ≤ 70) : ok_J6_getChars_ba4f3 (nI (100 * a + b)) (nI z) N f ∧ ∃ g', (f_J6_getChars_ba4f3 (nI (100 * a + b)) (nI z) N f).2 = g' ∧ (∀ i, i + dg a b < z ∨ z ≤ i → g' i = f i) ∧ ∀ i, z ≤ i + dg a b → i < z → ∃ c, 48 ≤ c ∧ c ≤ 57 ∧ g' i = nI c := by
  unfold ok_J6_getChars_ba4f3 f_J6_getChars_ba4f3
  rw [if_pos (nI_pos' (by omega)), if_pos (nI_pos' (by omega))]
  by_cases h0 : a = 0
  · subst h0
    have ed : dg 0 b = if b < 10 then 1 else 2 := rfl
    rw [ed] at hz ⊢
    rw [show 100 * 0 + b = b by omega]
    exact gc_l _ _ N f f hb hz hzn hN
  · obtain ⟨q1, q2, q3⟩ := gc_1 a ha (by omega) b hb
    have ed : dg a b = (if a < 10 then 1 else 2) + 2 := by
      unfold dg
      rw [if_neg h0]
      by_cases h : a < 10
      · rw [if_pos h, if_pos h]
      · rw [if_neg h, if_neg h]
    rw [ed] at hz ⊢
    have e1 : nI z + (-1) = nI (z - 1) := sb_m1 (by omega)
    have e2 : nI (z - 1) + (-1) = nI (z - 2) := by rw [sb_m1 (by omega), show z - 1 - 1 = z - 2 by omega]
    obtain ⟨c1, c2⟩ := gc_2 b hb
    have n1 := by_nar2 (48 + b % 10) (by omega)
    have n2 := by_nar2 (48 + b / 10) (by omega)
    unfold okl_lp_J6_getChars_ba4f3_22 lp_J6_getChars_ba4f3_22
    rw [if_neg q1, if_neg q1, q3, q2, e1, e2, c1, nI_clamp (show z - 1 < 2 ^ 31 by omega), nI_clamp (show z - 2 < 2 ^ 31 by omega), n1, n2]
    obtain ⟨k1, g', k2, k3, k4⟩ := gc_l (nI (100 * a + b)) (nI z) N f (w := a) (z := z - 2) (n := 4) (upd (upd f (z - 1) (nI (48 + b % 10))) (z - 2) (nI (48 + b / 10))) ha (by omega) (by omega) hN
    refine ⟨⟨c2, vp_in_nI (by omega) (by omega), c2, vp_in_nI (by omega) (by omega), k1⟩, g', k2, fun i hi => ?_, fun i h1 h2 => ?_⟩
    · rw [k3 i (by omega), upd_ne _ _ (by omega), upd_ne _ _ (by omega)]
    · by_cases h : i < z - 2
      · exact k4 i (by omega) h
      · rw [k3 i (by omega)]
        by_cases e : i = z - 2
        · subst e; rw [upd_eq]; exact ⟨48 + b / 10, by omega, by omega, rfl⟩
        · rw [upd_ne _ _ e, show i = z - 1 by omega, upd_eq]; exact ⟨48 + b % 10, by omega, by omega, rfl⟩
theorem tw_dg {sb : SbV} {n : Nat} (h : TW sb n) {a b k : Nat} (ha : a < 100) (hb : b < 100) (hk : dg a b ≤ k) (hn : n + k ≤ 34) : ok_J4_append_bf812 sb (nI (100 * a + b)) ∧ TW (f_J4_append_bf812 sb (nI (100 * a + b))) (n + k) := by
  obtain ⟨m, g1, g2, g3, g4, g5, g6⟩ := h
  have hN : 16 ≤ sb.1 ∧ sb.1 ≤ 70 := by unfold cap3 at g2; omega
  obtain ⟨o1, sb', e1, e2, e3, e4, e5, e6, e7, e8⟩ := ens_spec (sb := sb) (X := m + dg a b) g2 (by omega) (by omega) g5
  have hN' : 16 ≤ sb'.1 ∧ sb'.1 ≤ 70 := by unfold cap3 at e2; omega
  have eq1 : nI m + f_J6_stringSize_0f7a4 (nI (100 * a + b)) = nI (m + dg a b) := by rw [dg_ss a ha b hb, nI_add]
  obtain ⟨q1, f', q2, q3, q4⟩ := gc_4 (z := m + dg a b) (N := sb'.1) sb'.2.1 ha hb (by omega) e3 (by omega)
  have os : ok_J6_stringSize_0f7a4 (nI (100 * a + b)) := by
    unfold ok_J6_stringSize_0f7a4
    rw [if_neg (nI_pos (by omega))]
    exact dg_ok _ 9 (by omega) _
  unfold ok_J4_append_bf812 f_J4_append_bf812 ok_J5_append_c97b9 f_J5_append_c97b9
  simp only [g4, eq1, e1, q2]
  refine ⟨⟨⟨os, o1, q1, by omega, trivial⟩, trivial⟩, m + dg a b, by omega, e2, e3, rfl, fun i hi => ?_, fun i hi => ?_⟩
  · show ∃ c, c < 128 ∧ f' i = nI c
    by_cases g : m ≤ i ∧ i < m + dg a b
    · obtain ⟨c, c1, c2, c3⟩ := q4 i (by omega) g.2
      exact ⟨c, by omega, c3⟩
    · rw [q3 i (by omega)]; exact e8 i hi
  · show ∃ c, 32 ≤ c ∧ c ≤ 126 ∧ f' i = nI c
    by_cases g : m ≤ i
    · obtain ⟨c, c1, c2, c3⟩ := q4 i (by omega) hi
      exact ⟨c, by omega, by omega, c3⟩
    · rw [q3 i (by omega), e7 i (by omega)]; exact g6 i (by omega)
theorem tw_int {sb : SbV} {n : Nat} (h : TW sb n) {v k : Nat} (hv : v < 10000) (hk : (v < 10 → 1 ≤ k) ∧ (v < 100 → 10 ≤ v → 2 ≤ k) ∧ (v < 1000 → 100 ≤ v → 3 ≤ k) ∧ (1000 ≤ v → 4 ≤ k)) (hn : n + k ≤ 34) : ok_J4_append_bf812 sb (nI v) ∧ TW (f_J4_append_bf812 sb (nI v)) (n + k) := by
  have e : 100 * (v / 100) + v % 100 = v := by omega
  have := tw_dg h (a := v / 100) (b := v % 100) (k := k) (by omega) (by omega) (by
    unfold dg
    by_cases h0 : v / 100 = 0
    · rw [if_pos h0]
      by_cases h1 : v % 100 < 10
      · rw [if_pos h1]; omega
      · rw [if_neg h1]; omega
    · rw [if_neg h0]
      by_cases h1 : v / 100 < 10
      · rw [if_pos h1]; omega
      · rw [if_neg h1]; omega) hn
  rw [e] at this
  exact this
