/-! ===== texts: StringBuilder against rows ===== -/
def cap3 (n : Nat) : Prop := n = 16 ∨ n = 34 ∨ n = 70
theorem by_nar : ∀ c, c < 128 → vp_nar .byte ((nI c).toInt8.toInt32) = nI c := by decide +kernel
theorem by_nar2 : ∀ c, c < 128 → vp_nar .byte (nI c) = nI c := by decide +kernel
theorem by_fit : ∀ c, c < 128 → fits .byte (.int (nI c)) = true := by decide +kernel
theorem ch_and : ∀ c, c < 128 → (((nI c) &&& (255 : Int32)).toUInt32 % 65536).toInt32 = nI c := by decide +kernel
theorem ens_spec {sb : SbV} {X : Nat} (hc : cap3 sb.1) (hX : X ≤ 70) (hX2 : X ≤ 2 * sb.1 + 2) (hb : ∀ i, i < sb.1 → ∃ c, c < 128 ∧ sb.2.1 i = nI c) : ok_J5_ensureCapacityInternal_d00df sb (nI X) ∧ ∃ sb' : SbV, f_J5_ensureCapacityInternal_d00df sb (nI X) = sb' ∧ cap3 sb'.1 ∧ X ≤ sb'.1 ∧ sb.1 ≤ sb'.1 ∧ sb'.2.2.1 = sb.2.2.1 ∧ sb'.2.2.2 = sb.2.2.2 ∧ (∀ i, i < sb.1 → sb'.2.1 i = sb.2.1 i) ∧ (∀ i, i < sb'.1 → ∃ c, c < 128 ∧ sb'.2.1 i = nI c) := by
  have hN : 16 ≤ sb.1 ∧ sb.1 ≤ 70 := by unfold cap3 at hc; omega
  unfold ok_J5_ensureCapacityInternal_d00df f_J5_ensureCapacityInternal_d00df
  by_cases h : X ≤ sb.1
  · have hle : nI X - nI sb.1 ≤ 0 := by
      rw [Int32.le_iff_toInt_le, pk_sub_toInt (by omega) (by omega), show (0 : Int32).toInt = 0 from rfl]; omega
    rw [if_pos hle, if_pos hle]
    exact ⟨trivial, sb, rfl, hc, h, Nat.le_refl _, rfl, rfl, fun _ _ => rfl, hb⟩
  · have h34 : sb.1 = 16 ∨ sb.1 = 34 := by unfold cap3 at hc; omega
    have es : nI X - nI sb.1 = nI (X - sb.1) := pk_sub (by omega)
    have hle : ¬ nI (X - sb.1) ≤ 0 := nI_nle (by omega) (by omega)
    have e2 : nI sb.1 + 2 = nI (sb.1 + 2) := by rw [q_2, nI_add]
    have em : f_J9_max_7cf53 (nI (X - sb.1)) (nI (sb.1 + 2)) = nI (sb.1 + 2) := by
      unfold f_J9_max_7cf53
      by_cases g : X - sb.1 < sb.1 + 2
      · rw [if_pos (nI_lt g (by omega))]
      · rw [if_neg (nI_nlt (by omega) (by omega)), show X - sb.1 = sb.1 + 2 by omega]
    have eL : f_J8_newLength_cabcc (nI sb.1) (nI (X - sb.1)) (nI (sb.1 + 2)) = nI (2 * sb.1 + 2) ∧ ok_J8_newLength_cabcc (nI sb.1) (nI (X - sb.1)) (nI (sb.1 + 2)) := by
      unfold f_J8_newLength_cabcc ok_J8_newLength_cabcc
      rw [em, nI_add, show sb.1 + (sb.1 + 2) = 2 * sb.1 + 2 by omega]
      have n1 : ¬ nI (2 * sb.1 + 2) ≤ 0 := nI_nle (by omega) (by omega)
      have n2 : ¬ (2147483639 : Int32) < nI (2 * sb.1 + 2) := nI_nlt (a := 2147483639) (by omega) (by decide)
      simp only [if_neg n1, if_neg n2, and_self]
    have eC : f_J5_newCapacity_0f7a4 sb (nI X) = nI (2 * sb.1 + 2) ∧ ok_J5_newCapacity_0f7a4 sb (nI X) := by
      have n3 : ¬ nI (2 * sb.1 + 2) = (2147483647 : Int32) := by
        rw [show (2147483647 : Int32) = nI 2147483647 from rfl, nI_eq (by omega) (by decide)]; omega
      unfold f_J5_newCapacity_0f7a4 ok_J5_newCapacity_0f7a4
      rw [es, e2, eL.1]
      simp only [if_neg n3]
      exact ⟨trivial, eL.2, trivial⟩
    have n4 : ¬ nI (2 * sb.1 + 2) = nI sb.1 := by rw [nI_eq (by omega) (by omega)]; omega
    have emin : f_J9_min_7cf53 (nI sb.1) (nI (2 * sb.1 + 2)) = nI sb.1 := by rw [n_min (by omega) (by omega), show min sb.1 (2 * sb.1 + 2) = sb.1 by omega]
    have eK : f_J7_copyOf_9075b sb.1 sb.2.1 (nI (2 * sb.1 + 2)) = (2 * sb.1 + 2, va_cpy sb.2.1 (fun _ => 0) 0 0 sb.1) ∧ ok_J7_copyOf_9075b sb.1 sb.2.1 (nI (2 * sb.1 + 2)) := by
      unfold f_J7_copyOf_9075b ok_J7_copyOf_9075b
      rw [if_neg n4, if_neg n4, emin, nI_clamp (by omega), nI_clamp (by omega), show ((0 : Int32).toNatClampNeg) = 0 from rfl]
      refine ⟨rfl, nI_pos (by omega), by omega, nI_pos (by omega), by omega, by omega, fun i hi => ?_, trivial⟩
      obtain ⟨c, c1, c2⟩ := hb i hi
      rw [Nat.zero_add, c2]
      exact by_fit c c1
    rw [es, if_neg hle, if_neg hle, eC.1, eK.1]
    refine ⟨⟨eC.2, eK.2, by omega, trivial⟩, _, rfl, ?_, ?_, ?_, rfl, rfl, fun i hi => ?_, fun i hi => ?_⟩
    · show cap3 (2 * sb.1 + 2)
      unfold cap3; omega
    · show X ≤ 2 * sb.1 + 2
      exact hX2
    · show sb.1 ≤ 2 * sb.1 + 2
      omega
    · show (if 0 ≤ i ∧ i < 0 + sb.1 then sb.2.1 (0 + (i - 0)) else 0) = _
      rw [if_pos (by omega), show 0 + (i - 0) = i by omega]
    · show ∃ c, c < 128 ∧ (if 0 ≤ i ∧ i < 0 + sb.1 then sb.2.1 (0 + (i - 0)) else 0) = nI c
      by_cases g : i < sb.1
      · rw [if_pos (by omega), show 0 + (i - 0) = i by omega]
        exact hb i g
      · rw [if_neg (by omega)]
        exact ⟨0, by decide, rfl⟩
theorem getD_app (l : List Nat) (x : List Nat) {i : Nat} (h : i < l.length) : (l ++ x).getD i 0 = l.getD i 0 := by
  rw [List.getD_eq_getElem?_getD, List.getD_eq_getElem?_getD, List.getElem?_append_left h]
theorem getD_app2 (l : List Nat) (x : List Nat) (k : Nat) : (l ++ x).getD (l.length + k) 0 = x.getD k 0 := by
  rw [List.getD_eq_getElem?_getD, List.getD_eq_getElem?_getD, List.getElem?_append_right (by omega), show l.length + k - l.length = k by omega]
theorem tx_len {tb : SbV} {l : List Nat} (h : TX tb l) : f_J4_length_8abf5 tb = nI l.length := h.2.2.1
theorem tx_at {tb : SbV} {l : List Nat} (h : TX tb l) {i : Nat} (hi : i < l.length) : f_J4_charAt_5068e tb (nI i) = nI (l.getD i 0) ∧ ok_J4_charAt_5068e tb (nI i) := by
  obtain ⟨h1, h2, h3, h4, h5, h6⟩ := h
  have hN : 16 ≤ tb.1 ∧ tb.1 ≤ 70 := by omega
  have hc : l.getD i 0 < 128 := by
    rw [List.getD_eq_getElem?_getD, List.getElem?_eq_getElem hi]
    exact h6 _ (List.getElem_mem hi)
  have em : f_J9_min_7cf53 tb.2.2.2 (nI tb.1) = nI l.length := by rw [h3, n_min (by omega) (by omega), show min l.length tb.1 = l.length by omega]
  unfold f_J4_charAt_5068e ok_J4_charAt_5068e f_J5_charAt_5068e ok_J5_charAt_5068e
  rw [em, nI_clamp (by omega), h5 i hi]
  refine ⟨ch_and _ hc, ⟨⟨?_, trivial⟩, vp_in_nI (by omega) (by omega), trivial⟩, trivial⟩
  unfold ok_J3_checkIndex_8e157
  rw [if_neg (nI_pos (by omega)), if_pos (nI_lt hi (by omega))]
  trivial
theorem tx_char {tb : SbV} {l : List Nat} (h : TX tb l) (hl : l.length < 70) {c : Nat} (hc : c < 128) : ok_J4_append_cf468 tb (nI c) ∧ TX (f_J4_append_cf468 tb (nI c)) (l ++ [c]) := by
  obtain ⟨h1, h2, h3, h4, h5, h6⟩ := h
  have hN : 16 ≤ tb.1 ∧ tb.1 ≤ 70 := by omega
  obtain ⟨o1, sb', e1, e2, e3, e4, e5, e6, e7, e8⟩ := ens_spec (sb := tb) (X := l.length + 1) h1 (by omega) (by omega) h4
  have hN' : 16 ≤ sb'.1 ∧ sb'.1 ≤ 70 := by unfold cap3 at e2; omega
  have eq1 : tb.2.2.2 + 1 = nI (l.length + 1) := by rw [h3, nI_1]
  have ce : f_J1_canEncode_fc78d (nI c) = 1 := by
    unfold f_J1_canEncode_fc78d
    rw [if_neg (show ¬ (255 : Int32) < nI c from nI_nlt (a := 255) (by omega) (by decide))]
  unfold ok_J4_append_cf468 f_J4_append_cf468 ok_J5_append_3fe6f f_J5_append_3fe6f
  rw [eq1, e1, ce, if_neg (show ¬ (1 : Int32) = 0 by decide), if_neg (show ¬ (1 : Int32) = 0 by decide), e6, h3, nI_clamp (by omega), by_nar c hc, nI_1]
  refine ⟨⟨⟨o1, vp_in_nI (by omega) (by omega), trivial⟩, trivial⟩, e2, ?_, ?_, fun i hi => ?_, fun i hi => ?_, fun x hx => ?_⟩
  · rw [List.length_append]; exact e3
  · rw [List.length_append]; rfl
  · show ∃ c', c' < 128 ∧ upd sb'.2.1 l.length (nI c) i = nI c'
    by_cases g : i = l.length
    · subst g; rw [upd_eq]; exact ⟨c, hc, rfl⟩
    · rw [upd_ne _ _ g]; exact e8 i hi
  · show upd sb'.2.1 l.length (nI c) i = nI ((l ++ [c]).getD i 0)
    rw [List.length_append] at hi
    have hi : i < l.length + 1 := hi
    by_cases g : i = l.length
    · subst g
      rw [upd_eq]
      have := getD_app2 l [c] 0
      rw [Nat.add_zero] at this
      rw [this]; rfl
    · rw [upd_ne _ _ g, getD_app l _ (by omega), e7 i (by omega)]
      exact h5 i (by omega)
  · rcases List.mem_append.mp hx with g | g
    · exact h6 x g
    · rw [List.mem_singleton.mp g]; exact hc
/-- the digits of a number below 100 -/
def dig (v : Nat) : List Nat := if v < 10 then [48 + v] else [48 + v / 10, 48 + v % 10]
theorem dig_len (v : Nat) : (dig v).length ≤ 2 ∧ 1 ≤ (dig v).length := by unfold dig; split <;> simp
theorem ss_spec : ∀ v, v < 100 → f_J6_stringSize_0f7a4 (nI v) = (if v < 10 then 1 else 2) ∧ f_J6_stringSize_0f7a4 (nI v) = nI (dig v).length := by decide +kernel
theorem ss_ok : ∀ v, v < 100 → ok_J6_stringSize_0f7a4 (nI v) := by
  intro v hv
  have n0 : ¬ nI v < 0 := nI_pos (by omega)
  have y1 : ((10 : Int32) ≤ 1) = False := eq_false (by decide)
  have y2 : ((10 : Int32) ≤ 1 + 1) = False := eq_false (by decide)
  unfold ok_J6_stringSize_0f7a4
  rw [if_neg n0]
  by_cases h : v < 10
  · have : ∀ v, v < 10 → ¬ (-nI v ≤ (-10 : Int32)) := by decide +kernel
    unfold okl_lp_J6_stringSize_0f7a4_16'
    rw [if_neg (by decide), if_neg (this v h)]
    trivial
  · have t1 : ∀ v, v < 100 → ¬ v < 10 → (-nI v ≤ (-10 : Int32)) := by decide +kernel
    have t2 : ∀ v, v < 100 → ¬ (-nI v ≤ (10 : Int32) * (-10)) := by decide +kernel
    unfold okl_lp_J6_stringSize_0f7a4_16'
    rw [if_neg (by decide), if_pos (t1 v hv h)]
    unfold okl_lp_J6_stringSize_0f7a4_16'
    rw [if_neg (by decide), if_neg (t2 v hv)]
    trivial
theorem gc_num : ∀ v, v < 100 → ((-100 : Int32) < -nI v) ∧ (-(-nI v)).toNatClampNeg = v ∧ ((-9 : Int32) ≤ -nI v ↔ v < 10) ∧ vp_nar .byte (nI (48 + v % 10)) = nI (48 + v % 10) ∧ vp_nar .byte (nI (48 + v / 10)) = nI (48 + v / 10) := by decide +kernel
theorem gc_spec {v y n : Nat} (f : Nat → Int32) (hv : v < 100) (hy : (dig v).length ≤ y) (hn : y ≤ n) (hn2 : n ≤ 70) : ok_J6_getChars_ba4f3 (nI v) (nI y) n f ∧ (f_J6_getChars_ba4f3 (nI v) (nI y) n f).2 = if v < 10 then upd f (y - 1) (nI (48 + v)) else upd (upd f (y - 1) (nI (48 + v % 10))) (y - 2) (nI (48 + v / 10)) := by
  obtain ⟨g1, g2, g3, g4, g5⟩ := gc_num v hv
  have p0 : (0 : Int32) ≤ nI v := nI_pos' (by omega)
  have nx : -(-nI v) = nI v := by rw [Int32.neg_neg]
  have i1 : vp_in (-(-nI v)) 100 := by rw [nx]; exact vp_in_nI hv (by decide)
  unfold ok_J6_getChars_ba4f3 f_J6_getChars_ba4f3
  rw [if_pos p0, if_pos p0]
  unfold okl_lp_J6_getChars_ba4f3_22 lp_J6_getChars_ba4f3_22
  rw [if_pos g1, if_pos g1, g2, g4, g5]
  by_cases h : v < 10
  · have hd : (dig v).length = 1 := by unfold dig; rw [if_pos h]; rfl
    have e1 : nI y + (-1) = nI (y - 1) := sb_m1 (by omega)
    rw [if_pos (g3.mpr h), if_pos (g3.mpr h), if_pos h, e1, nI_clamp (by omega), show v % 10 = v by omega]
    exact ⟨⟨i1, vp_in_nI (by omega) (by omega), trivial⟩, rfl⟩
  · have hd : (dig v).length = 2 := by unfold dig; rw [if_neg h]; rfl
    have e1 : nI y + (-1) = nI (y - 1) := sb_m1 (by omega)
    have e2 : nI (y - 1) + (-1) = nI (y - 2) := by rw [sb_m1 (by omega), show y - 1 - 1 = y - 2 by omega]
    rw [if_neg (fun w => h (g3.mp w)), if_neg (fun w => h (g3.mp w)), if_neg h, e1, e2, nI_clamp (by omega), nI_clamp (by omega)]
    exact ⟨⟨i1, vp_in_nI (by omega) (by omega), i1, vp_in_nI (by omega) (by omega), trivial⟩, rfl⟩
theorem tx_int {tb : SbV} {l : List Nat} (h : TX tb l) (hl : l.length + 2 ≤ 70) {v : Nat} (hv : v < 100) : ok_J4_append_bf812 tb (nI v) ∧ TX (f_J4_append_bf812 tb (nI v)) (l ++ dig v) := by
  obtain ⟨h1, h2, h3, h4, h5, h6⟩ := h
  have hN : 16 ≤ tb.1 ∧ tb.1 ≤ 70 := by omega
  obtain ⟨dl, dl1⟩ := dig_len v
  obtain ⟨o1, sb', e1, e2, e3, e4, e5, e6, e7, e8⟩ := ens_spec (sb := tb) (X := l.length + (dig v).length) h1 (by omega) (by omega) h4
  have hN' : 16 ≤ sb'.1 ∧ sb'.1 ≤ 70 := by unfold cap3 at e2; omega
  have eq1 : tb.2.2.2 + f_J6_stringSize_0f7a4 (nI v) = nI (l.length + (dig v).length) := by rw [h3, (ss_spec v hv).2, nI_add]
  obtain ⟨g1, g2⟩ := gc_spec (y := l.length + (dig v).length) (n := sb'.1) sb'.2.1 hv (by omega) e3 (by omega)
  unfold ok_J4_append_bf812 f_J4_append_bf812 ok_J5_append_c97b9 f_J5_append_c97b9
  simp only [eq1, e1, g2]
  have hb : ∀ i, i < sb'.1 → ∃ c, c < 128 ∧ (if v < 10 then upd sb'.2.1 (l.length + (dig v).length - 1) (nI (48 + v)) else upd (upd sb'.2.1 (l.length + (dig v).length - 1) (nI (48 + v % 10))) (l.length + (dig v).length - 2) (nI (48 + v / 10))) i = nI c := fun i hi => by
    by_cases g : v < 10
    · rw [if_pos g]
      by_cases w : i = l.length + (dig v).length - 1
      · subst w; rw [upd_eq]; exact ⟨48 + v, by omega, rfl⟩
      · rw [upd_ne _ _ w]; exact e8 i hi
    · rw [if_neg g]
      by_cases w : i = l.length + (dig v).length - 2
      · subst w; rw [upd_eq]; exact ⟨48 + v / 10, by omega, rfl⟩
      · rw [upd_ne _ _ w]
        by_cases w : i = l.length + (dig v).length - 1
        · subst w; rw [upd_eq]; exact ⟨48 + v % 10, by omega, rfl⟩
        · rw [upd_ne _ _ w]; exact e8 i hi
  refine ⟨⟨⟨ss_ok v hv, o1, g1, by omega, trivial⟩, trivial⟩, e2, ?_, ?_, hb, fun i hi => ?_, fun x hx => ?_⟩
  · rw [List.length_append]; exact e3
  · rw [List.length_append]
  · show (if v < 10 then upd sb'.2.1 (l.length + (dig v).length - 1) (nI (48 + v)) else upd (upd sb'.2.1 (l.length + (dig v).length - 1) (nI (48 + v % 10))) (l.length + (dig v).length - 2) (nI (48 + v / 10))) i = nI ((l ++ dig v).getD i 0)
    rw [List.length_append] at hi
    by_cases g : i < l.length
    · rw [getD_app l _ g]
      have : (if v < 10 then upd sb'.2.1 (l.length + (dig v).length - 1) (nI (48 + v)) else upd (upd sb'.2.1 (l.length + (dig v).length - 1) (nI (48 + v % 10))) (l.length + (dig v).length - 2) (nI (48 + v / 10))) i = sb'.2.1 i := by
        by_cases w : v < 10
        · rw [if_pos w, upd_ne _ _ (by omega)]
        · have hd : (dig v).length = 2 := by unfold dig; rw [if_neg w]; rfl
          rw [if_neg w, upd_ne _ _ (by omega), upd_ne _ _ (by omega)]
      rw [this, e7 i (by omega)]
      exact h5 i g
    · obtain ⟨k, rfl⟩ : ∃ k, i = l.length + k := ⟨i - l.length, by omega⟩
      rw [getD_app2]
      by_cases w : v < 10
      · have hd : dig v = [48 + v] := by unfold dig; rw [if_pos w]
        rw [hd] at hi ⊢
        have hk : k = 0 := by
          have : k < 1 := by simpa using hi
          omega
        subst hk
        rw [if_pos w]
        show upd sb'.2.1 (l.length + 1 - 1) _ (l.length + 0) = _
        rw [show l.length + 1 - 1 = l.length + 0 by omega, upd_eq]; rfl
      · have hd : dig v = [48 + v / 10, 48 + v % 10] := by unfold dig; rw [if_neg w]
        rw [hd] at hi ⊢
        have hk : k < 2 := by simpa using hi
        rw [if_neg w]
        show upd (upd sb'.2.1 (l.length + 2 - 1) _) (l.length + 2 - 2) _ (l.length + k) = _
        rcases (by omega : k = 0 ∨ k = 1) with e | e <;> subst e
        · rw [show l.length + 2 - 2 = l.length + 0 by omega, upd_eq]; rfl
        · rw [upd_ne _ _ (by omega), show l.length + 2 - 1 = l.length + 1 by omega, upd_eq]; rfl
  · rcases List.mem_append.mp hx with g | g
    · exact h6 x g
    · unfold dig at g
      by_cases w : v < 10
      · rw [if_pos w] at g; rw [List.mem_singleton.mp g]; omega
      · rw [if_neg w] at g
        rcases List.mem_cons.mp g with g | g
        · omega
        · rw [List.mem_singleton.mp g]; omega
theorem tx_str {tb : SbV} {l : List Nat} (h : TX tb l) (hl : l.length + 2 ≤ 70) : ok_J4_append_15ec4 tb 16 ∧ TX (f_J4_append_15ec4 tb 16) (l ++ [32, 107]) := by
  obtain ⟨h1, h2, h3, h4, h5, h6⟩ := h
  have hN : 16 ≤ tb.1 ∧ tb.1 ≤ 70 := by omega
  obtain ⟨o1, sb', e1, e2, e3, e4, e5, e6, e7, e8⟩ := ens_spec (sb := tb) (X := l.length + 2) h1 (by omega) (by omega) h4
  have hN' : 16 ≤ sb'.1 ∧ sb'.1 ≤ 70 := by unfold cap3 at e2; omega
  have eq2 : nI l.length + f_J0_length_8abf5 16 = nI (l.length + 2) := by
    show nI l.length + nI 2 = _
    rw [nI_add]
  have eb : f_J0_getBytes_840e7 16 sb'.1 sb'.2.1 (nI l.length) 0 = va_cpy (fun i => nI ((strL.getD 16 []).getD i 0)) sb'.2.1 0 l.length 2 ∧ ok_J0_getBytes_840e7 16 sb'.1 sb'.2.1 (nI l.length) 0 := by
    have z : nI l.length <<< ((0 : Int32) &&& 31) = nI l.length := sb_shl0 _
    unfold f_J0_getBytes_840e7 ok_J0_getBytes_840e7
    rw [if_pos rfl, if_pos rfl, z, nI_clamp (by omega)]
    refine ⟨rfl, nI_pos (by omega), by decide, by decide, ?_, ?_, trivial⟩
    · show l.length + 2 ≤ sb'.1
      exact e3
    · intro i hi
      have hi : i < 2 := hi
      rcases (by omega : i = 0 ∨ i = 1) with e | e <;> subst e <;> rfl
  unfold ok_J4_append_15ec4 f_J4_append_15ec4 ok_J5_append_cf1ce f_J5_append_cf1ce ok_J5_putStringAt_47b60 f_J5_putStringAt_47b60
  simp only [h3, eq2, e1, e6, eb.1]
  refine ⟨⟨⟨o1, ⟨eb.2, by omega, trivial⟩, trivial⟩, trivial⟩, e2, ?_, ?_, fun i hi => ?_, fun i hi => ?_, fun x hx => ?_⟩
  · rw [List.length_append]; exact e3
  · rw [List.length_append]; rfl
  · show ∃ c, c < 128 ∧ (if l.length ≤ i ∧ i < l.length + 2 then nI ((strL.getD 16 []).getD (0 + (i - l.length)) 0) else sb'.2.1 i) = nI c
    by_cases g : l.length ≤ i ∧ i < l.length + 2
    · rw [if_pos g]
      rcases (by omega : i - l.length = 0 ∨ i - l.length = 1) with e | e <;> rw [e]
      · exact ⟨32, by decide, rfl⟩
      · exact ⟨107, by decide, rfl⟩
    · rw [if_neg g]; exact e8 i hi
  · show (if l.length ≤ i ∧ i < l.length + 2 then nI ((strL.getD 16 []).getD (0 + (i - l.length)) 0) else sb'.2.1 i) = nI ((l ++ [32, 107]).getD i 0)
    rw [List.length_append] at hi
    have hi : i < l.length + 2 := hi
    by_cases g : l.length ≤ i
    · rw [if_pos ⟨g, hi⟩]
      obtain ⟨k, rfl⟩ : ∃ k, i = l.length + k := ⟨i - l.length, by omega⟩
      rw [getD_app2, show l.length + k - l.length = k by omega]
      rcases (by omega : k = 0 ∨ k = 1) with e | e <;> subst e <;> rfl
    · rw [if_neg (fun w => g w.1), getD_app l _ (by omega), e7 i (by omega)]
      exact h5 i (by omega)
  · rcases List.mem_append.mp hx with g | g
    · exact h6 x g
    · rcases List.mem_cons.mp g with g | g
      · omega
      · rw [List.mem_singleton.mp g]; omega
theorem tx_clear {tb : SbV} {l : List Nat} (h : TX tb l) : ok_J4_setLength_d00df tb 0 ∧ TX (f_J4_setLength_d00df tb 0) [] := by
  obtain ⟨h1, h2, h3, h4, h5, h6⟩ := h
  have hN : 16 ≤ tb.1 ∧ tb.1 ≤ 70 := by omega
  obtain ⟨o1, sb', e1, e2, e3, e4, e5, e6, e7, e8⟩ := ens_spec (sb := tb) (X := 0) h1 (by omega) (by omega) h4
  have e1 : f_J5_ensureCapacityInternal_d00df tb 0 = sb' := e1
  have o1 : ok_J5_ensureCapacityInternal_d00df tb 0 := o1
  have z : (0 : Int32) ≤ sb'.2.2.2 := by rw [e6, h3]; exact nI_pos' (by omega)
  unfold ok_J4_setLength_d00df f_J4_setLength_d00df ok_J5_setLength_d00df f_J5_setLength_d00df
  rw [if_pos (show (0 : Int32) ≤ 0 by decide), if_pos (show (0 : Int32) ≤ 0 by decide), e1]
  simp only [if_pos z]
  refine ⟨⟨⟨o1, trivial⟩, trivial⟩, ?_⟩
  by_cases g : sb'.2.2.2 ≤ 0
  · rw [if_pos g]
    exact ⟨e2, Nat.zero_le _, rfl, e8, fun i hi => absurd hi (Nat.not_lt_zero i), fun x hx => absurd hx List.not_mem_nil⟩
  · rw [if_neg g]
    exact ⟨e2, Nat.zero_le _, rfl, e8, fun i hi => absurd hi (Nat.not_lt_zero i), fun x hx => absurd hx List.not_mem_nil⟩
