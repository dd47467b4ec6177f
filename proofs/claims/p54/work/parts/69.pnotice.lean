/-! ===== the notice and the buffer ===== -/
theorem mx_put {f : Nat → Int32} {n : Int32} {l : List Nat} (h : MX f n l) (hl : l.length < 1000) (c : Nat) : MX (upd f n.toNatClampNeg (nI c)) (n + 1) (l ++ [c]) := by
  obtain ⟨h1, h2⟩ := h
  rw [h1, nI_clamp (by omega)]
  refine ⟨by rw [nI_1, List.length_append]; rfl, fun i hi => ?_⟩
  rw [List.length_append] at hi
  have hi : i < l.length + 1 := hi
  by_cases g : i = l.length
  · subst g
    rw [upd_eq]
    have := getD_app2 l [c] 0
    rw [Nat.add_zero] at this
    rw [this]; rfl
  · rw [upd_ne _ _ g, getD_app l _ (by omega)]
    exact h2 i (by omega)
/-- d is d0 but for the notice, which holds l -/
def MN (d0 d : MoV) (l : List Nat) : Prop := ∃ f n, d = mo11 (mo10 d0 f) n ∧ MX f n l
theorem mn_put {d0 d : MoV} {l : List Nat} (h : MN d0 d l) (hl : l.length < 40) (c : Nat) : MN d0 (f_X10_puts d (nI c)) (l ++ [c]) ∧ ok_X10_puts d (nI c) := by
  obtain ⟨f, n, rfl, hx⟩ := h
  refine ⟨⟨upd f n.toNatClampNeg (nI c), n + 1, rfl, mx_put hx (by omega) c⟩, ?_, trivial⟩
  show vp_in n 40
  rw [hx.1]
  exact vp_in_nI hl (by decide)
theorem dig_num : ∀ v, v < 100 → (v < 10 → (nI v < (10 : Int32)) ∧ (48 : Int32) + (nI v - nI v / 10 * 10) = nI (48 + v)) ∧ (¬ v < 10 → ¬ nI v < (10 : Int32) ∧ nI v / 10 = nI (v / 10) ∧ nI (v / 10) < (10 : Int32) ∧ (48 : Int32) + (nI (v / 10) - nI (v / 10) / 10 * 10) = nI (48 + v / 10) ∧ (48 : Int32) + (nI v - nI (v / 10) * 10) = nI (48 + v % 10)) := by decide +kernel
theorem mn_num {d0 d : MoV} {l : List Nat} (h : MN d0 d l) (hl : l.length + 2 ≤ 40) {v : Nat} (hv : v < 100) : MN d0 (f_X10_number d (nI v)) (l ++ dig v) ∧ ok_X10_number d (nI v) := by
  obtain ⟨g1, g2⟩ := dig_num v hv
  unfold f_X10_number ok_X10_number
  by_cases w : v < 10
  · obtain ⟨a1, a2⟩ := g1 w
    have hd : dig v = [48 + v] := by unfold dig; rw [if_pos w]
    rw [if_pos a1, if_pos a1, a2, hd]
    obtain ⟨p1, p2⟩ := mn_put h (by omega) (48 + v)
    exact ⟨p1, p2, trivial⟩
  · obtain ⟨a1, a2, a3, a4, a5⟩ := g2 w
    have hd : dig v = [48 + v / 10, 48 + v % 10] := by unfold dig; rw [if_neg w]
    have e0 : f_X10_number0 d (nI (v / 10)) = f_X10_puts d (nI (48 + v / 10)) := by
      unfold f_X10_number0
      rw [if_pos a3, a4]
    have o0 : ok_X10_puts d (nI (48 + v / 10)) → ok_X10_number0 d (nI (v / 10)) := fun o => by
      unfold ok_X10_number0
      rw [if_pos a3, a4]
      exact ⟨o, trivial⟩
    rw [if_neg a1, if_neg a1, a2, hd]
    simp only [e0, a5]
    obtain ⟨p1, p2⟩ := mn_put h (by omega) (48 + v / 10)
    obtain ⟨p3, p4⟩ := mn_put p1 (by rw [List.length_append]; show l.length + 1 < 40; omega) (48 + v % 10)
    rw [List.append_assoc] at p3
    exact ⟨p3, o0 p2, p4, trivial⟩
theorem mn_of {d0 d : MoV} {l : List Nat} (h : MN d0 d l) : d.1 = d0.1 := by
  obtain ⟨f, n, rfl, -⟩ := h
  rfl
/-- the digits of the phases in a set -/
def bitl (w : Int32) : Nat → Nat → List Nat
  | 0, _ => []
  | k + 1, i => (if ((w >>> (nI i &&& 31)) &&& 1) = 1 then [48 + i] else []) ++ bitl w k (i + 1)
theorem bitl_len (w : Int32) : ∀ k i, (bitl w k i).length ≤ k
  | 0, _ => Nat.le_refl 0
  | k + 1, i => by
    have := bitl_len w k (i + 1)
    show ((if ((w >>> (nI i &&& 31)) &&& 1) = 1 then [48 + i] else []) ++ bitl w k (i + 1)).length ≤ k + 1
    rw [List.length_append]
    split
    · show 1 + _ ≤ _; omega
    · show 0 + _ ≤ _; omega
theorem dig_1 {i : Nat} (h : i < 10) : dig i = [48 + i] := by unfold dig; rw [if_pos h]
/-- what both write of a door's phases -/
def phl (w : Int32) : List Nat := if w = 0 then [45] else bitl w 8 0
theorem phl_len (w : Int32) : (phl w).length ≤ 8 := by
  unfold phl
  split
  · decide
  · exact bitl_len w 8 0
theorem bit0 : bitl 0 8 0 = [] := by decide +kernel
theorem c_ph_lp {D : DoV} {j : Nat} (hj : j < 8) (u : SbV) (sb0 : SbV) : ∀ (k i : Nat) (sb : SbV) (l : List Nat), i + k = 8 → TX sb l → l.length + k + 2 ≤ 70 →
    (okl_lp_X2_describePhases_20 D (nI j) sb0 (k + 1) (nI i) sb ∧ TX (lp_X2_describePhases_20 D (nI j) sb0 (k + 1) (nI i) sb) (l ++ bitl (D.2.1 j) k i)) ∧ okl_lp_X2_describePhases_20' D (nI j) sb0 u (k + 1) (nI i) sb ∧ TX (lp_X2_describePhases_20' D (nI j) sb0 u (k + 1) (nI i) sb) (l ++ bitl (D.2.1 j) k i) := by
  intro k
  induction k with
  | zero =>
    intro i sb l hi h _
    have : i = 8 := by omega
    subst this
    unfold okl_lp_X2_describePhases_20 lp_X2_describePhases_20 okl_lp_X2_describePhases_20' lp_X2_describePhases_20' bitl
    rw [List.append_nil, if_pos (show (8 : Int32) ≤ nI 8 by decide), if_pos (show (8 : Int32) ≤ nI 8 by decide), if_pos (show (8 : Int32) ≤ nI 8 by decide), if_pos (show (8 : Int32) ≤ nI 8 by decide)]
    exact ⟨⟨trivial, h⟩, trivial, h⟩
  | succ k ih =>
    intro i sb l hi h hl
    have n8 : ¬ (8 : Int32) ≤ nI i := nI_ge (b := 8) (by omega) (by decide)
    have ep : f_X2_containsPhase D (nI j) (nI i) = if ((D.2.1 j >>> (nI i &&& 31)) &&& 1) = 1 then 1 else 0 := by
      unfold f_X2_containsPhase
      rw [n_at _ hj (by decide)]
    unfold okl_lp_X2_describePhases_20 lp_X2_describePhases_20 okl_lp_X2_describePhases_20' lp_X2_describePhases_20'
    rw [if_neg n8, if_neg n8, if_neg n8, if_neg n8, ep, nI_1]
    by_cases g : ((D.2.1 j >>> (nI i &&& 31)) &&& 1) = 1
    · obtain ⟨o1, t1⟩ := tx_int h (by omega) (v := i) (by omega)
      rw [dig_1 (by omega)] at t1
      obtain ⟨⟨a1, a2⟩, a3, a4⟩ := ih (i + 1) _ _ (by omega) t1 (by rw [List.length_append]; show l.length + 1 + k + 2 ≤ 70; omega)
      have eb : l ++ bitl (D.2.1 j) (k + 1) i = l ++ [48 + i] ++ bitl (D.2.1 j) k (i + 1) := by
        show l ++ ((if ((D.2.1 j >>> (nI i &&& 31)) &&& 1) = 1 then [48 + i] else []) ++ bitl (D.2.1 j) k (i + 1)) = _
        rw [if_pos g, List.append_assoc]
      rw [eb]
      simp only [if_pos g, if_neg (show ¬ (1 : Int32) = 0 by decide)]
      exact ⟨⟨⟨o1, a1⟩, a2⟩, ⟨o1, a3⟩, a4⟩
    · obtain ⟨⟨a1, a2⟩, a3, a4⟩ := ih (i + 1) sb l (by omega) h (by omega)
      have eb : l ++ bitl (D.2.1 j) (k + 1) i = l ++ bitl (D.2.1 j) k (i + 1) := by
        show l ++ ((if ((D.2.1 j >>> (nI i &&& 31)) &&& 1) = 1 then [48 + i] else []) ++ bitl (D.2.1 j) k (i + 1)) = _
        rw [if_neg g]; rfl
      rw [eb]
      simp only [if_neg g, eq_self, ite_true]
      exact ⟨⟨a1, a2⟩, a3, a4⟩
theorem c_ph {D : DoV} {j : Nat} (hj : j < 8) {sb : SbV} {l : List Nat} (h : TX sb l) (hl : l.length + 11 ≤ 70) : ok_X2_describePhases D (nI j) sb ∧ TX (f_X2_describePhases D (nI j) sb) (l ++ phl (D.2.1 j)) := by
  unfold ok_X2_describePhases f_X2_describePhases phl
  rw [n_at _ hj (by decide)]
  by_cases g : D.2.1 j = 0
  · obtain ⟨o1, t1⟩ := tx_char h (by omega) (c := 45) (by decide)
    have o1 : ok_J4_append_cf468 sb 45 := o1
    have t1 : TX (f_J4_append_cf468 sb 45) (l ++ [45]) := t1
    obtain ⟨-, a3, a4⟩ := c_ph_lp (D := D) hj (f_J4_append_cf468 sb 45) sb 8 0 _ _ (by decide) t1 (by rw [List.length_append]; show l.length + 1 + 8 + 2 ≤ 70; omega)
    rw [g, bit0, List.append_nil] at a4
    simp only [if_pos g]
    exact ⟨⟨o1, a3⟩, a4⟩
  · obtain ⟨⟨a1, a2⟩, -⟩ := c_ph_lp (D := D) hj sb sb 8 0 sb l (by decide) h (by omega)
    simp only [if_neg g]
    exact ⟨a1, a2⟩
theorem c_desc {D : DoV} {j b c e : Nat} (hj : j < 8) (hb : b < 24) (hc : c < 24) (he : e < 8) (r2 : D.2.2.1 j = nI b) (r3 : D.2.2.2.1 j = nI c) (r4 : D.2.2.2.2 j = nI e) {sb : SbV} {l : List Nat} (h : TX sb l) (hl : l.length ≤ 20) : ok_X2_describe D (nI j) sb ∧ TX (f_X2_describe D (nI j) sb) (l ++ phl (D.2.1 j) ++ [32] ++ dig b ++ [45] ++ dig c ++ [32, 107] ++ dig e) := by
  have pl := phl_len (D.2.1 j)
  obtain ⟨db, -⟩ := dig_len b
  obtain ⟨dc, -⟩ := dig_len c
  obtain ⟨o1, t1⟩ := c_ph (D := D) hj h (by omega)
  obtain ⟨o2, t2⟩ := tx_char t1 (by simp only [List.length_append]; omega) (c := 32) (by decide)
  obtain ⟨o3, t3⟩ := tx_int t2 (by simp only [List.length_append, List.length_singleton]; omega) (v := b) (by omega)
  obtain ⟨o4, t4⟩ := tx_char t3 (by simp only [List.length_append, List.length_singleton]; omega) (c := 45) (by decide)
  obtain ⟨o5, t5⟩ := tx_int t4 (by simp only [List.length_append, List.length_singleton]; omega) (v := c) (by omega)
  obtain ⟨o6, t6⟩ := tx_str t5 (by simp only [List.length_append, List.length_singleton]; omega)
  obtain ⟨o7, t7⟩ := tx_int t6 (by simp only [List.length_append, List.length_singleton, List.length_cons, List.length_nil]; omega) (v := e) (by omega)
  unfold ok_X2_describe f_X2_describe
  rw [n_at _ hj (by decide), n_at _ hj (by decide), n_at _ hj (by decide), r2, r3, r4]
  exact ⟨⟨o1, o2, o3, o4, o5, o6, o7, trivial⟩, t7⟩
def wnV (dr : Int32) (dL : MoV) : Int32 × MoV := (let u_21 : MoV := (f_X10_puts dL (32 : Int32)); (let u_26 : MoV := (f_X10_number u_21 (f_X10_of u_21 dr (1 : Int32))); (let u_29 : MoV := (f_X10_puts u_26 (45 : Int32)); (let u_34 : MoV := (f_X10_number u_29 (f_X10_of u_29 dr (2 : Int32))); (let u_37 : MoV := (f_X10_puts u_34 (32 : Int32)); (let u_40 : MoV := (f_X10_puts u_37 (107 : Int32)); (let u_45 : MoV := (f_X10_number u_40 (f_X10_of u_40 dr (3 : Int32))); (if (f_X10_unlocked u_45 dr (u_45.1 (0 : Int32).toNatClampNeg)) = (0 : Int32) then (u_45.2.2.2.2.2.2.2.2.2.2.2.1, u_45) else (let u_51 : MoV := (f_X10_puts u_45 (33 : Int32)); (u_51.2.2.2.2.2.2.2.2.2.2.2.1, u_51))))))))))
def wnO (dr : Int32) (dL : MoV) : Prop := (ok_X10_puts dL (32 : Int32) ∧ (let u_21 : MoV := (f_X10_puts dL (32 : Int32)); (ok_X10_of u_21 dr (1 : Int32) ∧ (ok_X10_number u_21 (f_X10_of u_21 dr (1 : Int32)) ∧ (let u_26 : MoV := (f_X10_number u_21 (f_X10_of u_21 dr (1 : Int32))); (ok_X10_puts u_26 (45 : Int32) ∧ (let u_29 : MoV := (f_X10_puts u_26 (45 : Int32)); (ok_X10_of u_29 dr (2 : Int32) ∧ (ok_X10_number u_29 (f_X10_of u_29 dr (2 : Int32)) ∧ (let u_34 : MoV := (f_X10_number u_29 (f_X10_of u_29 dr (2 : Int32))); (ok_X10_puts u_34 (32 : Int32) ∧ (let u_37 : MoV := (f_X10_puts u_34 (32 : Int32)); (ok_X10_puts u_37 (107 : Int32) ∧ (let u_40 : MoV := (f_X10_puts u_37 (107 : Int32)); (ok_X10_of u_40 dr (3 : Int32) ∧ (ok_X10_number u_40 (f_X10_of u_40 dr (3 : Int32)) ∧ (let u_45 : MoV := (f_X10_number u_40 (f_X10_of u_40 dr (3 : Int32))); (ok_X10_unlocked u_45 dr (u_45.1 (0 : Int32).toNatClampNeg) ∧ (if (f_X10_unlocked u_45 dr (u_45.1 (0 : Int32).toNatClampNeg)) = (0 : Int32) then True else (ok_X10_puts u_45 (33 : Int32) ∧ True))))))))))))))))))))
theorem m_wn_lp {d0 : MoV} {j a b c e : Nat} (hj : j < 8) (hb : b < 24) (hc : c < 24) (he : e < 8) (r1 : d0.1 (11 + 4 * j) = nI a) (ha : a < 256) (r2 : d0.1 (11 + 4 * j + 1) = nI b) (r3 : d0.1 (11 + 4 * j + 2) = nI c) (r4 : d0.1 (11 + 4 * j + 3) = nI e) {U : Int32} (hu : ∀ d : MoV, d.1 = d0.1 → f_X10_unlocked d (nI j) (d.1 (0 : Int32).toNatClampNeg) = U ∧ ok_X10_unlocked d (nI j) (d.1 (0 : Int32).toNatClampNeg)) (dd u4 u8 u11 u14 : MoV) :
    ∀ (k i : Nat) (d : MoV) (l : List Nat), i + k = 8 → MN d0 d l → l.length + k ≤ 12 → ∃ L, L = l ++ bitl (nI a) k i ++ (if nI a = 0 then [45] else []) ++ [32] ++ dig b ++ [45] ++ dig c ++ [32, 107] ++ dig e ++ (if U = 0 then [] else [33]) ∧ okl_lp_X10_writeNotice_47 dd (nI j) u4 u8 u11 u14 (k + 1) (nI i) d ∧ (lp_X10_writeNotice_47 dd (nI j) u4 u8 u11 u14 (k + 1) (nI i) d).1 = nI L.length ∧ MN d0 (lp_X10_writeNotice_47 dd (nI j) u4 u8 u11 u14 (k + 1) (nI i) d).2 L := by
  obtain ⟨db, -⟩ := dig_len b
  obtain ⟨dc, -⟩ := dig_len c
  obtain ⟨de, -⟩ := dig_len e
  have q1 : ∀ d : MoV, d.1 = d0.1 → f_X10_of d (nI j) 1 = nI b ∧ ok_X10_of d (nI j) 1 := fun d h => by
    obtain ⟨g1, g2⟩ := m_of d hj (w := 1) (by decide)
    exact ⟨g1.trans (by rw [h]; exact r2), g2⟩
  have q2 : ∀ d : MoV, d.1 = d0.1 → f_X10_of d (nI j) 2 = nI c ∧ ok_X10_of d (nI j) 2 := fun d h => by
    obtain ⟨g1, g2⟩ := m_of d hj (w := 2) (by decide)
    exact ⟨g1.trans (by rw [h]; exact r3), g2⟩
  have q3 : ∀ d : MoV, d.1 = d0.1 → f_X10_of d (nI j) 3 = nI e ∧ ok_X10_of d (nI j) 3 := fun d h => by
    obtain ⟨g1, g2⟩ := m_of d hj (w := 3) (by decide)
    exact ⟨g1.trans (by rw [h]; exact r4), g2⟩
  have q0 : ∀ d : MoV, d.1 = d0.1 → f_X10_of d (nI j) 0 = nI a ∧ ok_X10_of d (nI j) 0 := fun d h => by
    obtain ⟨g1, g2⟩ := m_of d hj (w := 0) (by decide)
    exact ⟨g1.trans (by rw [h]; exact r1), g2⟩
  -- behind the phases
  have tail : ∀ (d : MoV) (l : List Nat), MN d0 d l → l.length ≤ 13 → ∃ L, L = l ++ [32] ++ dig b ++ [45] ++ dig c ++ [32, 107] ++ dig e ++ (if U = 0 then [] else [33]) ∧
      wnO (nI j) d ∧ (wnV (nI j) d).1 = nI L.length ∧ MN d0 (wnV (nI j) d).2 L := by
    intro d l h hl
    obtain ⟨n1, o1⟩ : MN d0 (f_X10_puts d 32) (l ++ [32]) ∧ ok_X10_puts d 32 := mn_put h (by omega) 32
    obtain ⟨n2, o2⟩ := mn_num n1 (by simp only [List.length_append, List.length_singleton]; omega) (v := b) (by omega)
    obtain ⟨n3, o3⟩ : MN d0 (f_X10_puts (f_X10_number (f_X10_puts d 32) (nI b)) 45) (l ++ [32] ++ dig b ++ [45]) ∧ ok_X10_puts (f_X10_number (f_X10_puts d 32) (nI b)) 45 := mn_put n2 (by simp only [List.length_append, List.length_singleton]; omega) 45
    obtain ⟨n4, o4⟩ := mn_num n3 (by simp only [List.length_append, List.length_singleton]; omega) (v := c) (by omega)
    obtain ⟨n5, o5⟩ : MN d0 (f_X10_puts (f_X10_number (f_X10_puts (f_X10_number (f_X10_puts d 32) (nI b)) 45) (nI c)) 32) (l ++ [32] ++ dig b ++ [45] ++ dig c ++ [32]) ∧ ok_X10_puts (f_X10_number (f_X10_puts (f_X10_number (f_X10_puts d 32) (nI b)) 45) (nI c)) 32 := mn_put n4 (by simp only [List.length_append, List.length_singleton]; omega) 32
    obtain ⟨n6, o6⟩ : MN d0 (f_X10_puts (f_X10_puts (f_X10_number (f_X10_puts (f_X10_number (f_X10_puts d 32) (nI b)) 45) (nI c)) 32) 107) (l ++ [32] ++ dig b ++ [45] ++ dig c ++ [32] ++ [107]) ∧ ok_X10_puts (f_X10_puts (f_X10_number (f_X10_puts (f_X10_number (f_X10_puts d 32) (nI b)) 45) (nI c)) 32) 107 := mn_put n5 (by simp only [List.length_append, List.length_singleton]; omega) 107
    obtain ⟨n7, o7⟩ := mn_num n6 (by simp only [List.length_append, List.length_singleton]; omega) (v := e) (by omega)
    obtain ⟨u1, u2⟩ := hu _ (mn_of n7)
    have E1 := (q1 _ (mn_of n1))
    have E2 := (q2 _ (mn_of n3))
    have E3 := (q3 _ (mn_of n6))
    refine ⟨_, rfl, ?_, ?_⟩
    · have E1a : f_X10_of (f_X10_puts d 32) (nI j) 1 = nI b := E1.1
      have E2a : f_X10_of (f_X10_puts (f_X10_number (f_X10_puts d 32) (nI b)) 45) (nI j) 2 = nI c := E2.1
      have E3a : f_X10_of (f_X10_puts (f_X10_puts (f_X10_number (f_X10_puts (f_X10_number (f_X10_puts d 32) (nI b)) 45) (nI c)) 32) 107) (nI j) 3 = nI e := E3.1
      unfold wnO
      simp only [E1a, E2a, E3a]
      refine ⟨o1, E1.2, o2, o3, E2.2, o4, o5, o6, E3.2, o7, u2, ?_⟩
      by_cases g : U = 0
      · rw [if_pos (u1.trans g)]; trivial
      · rw [if_neg (fun w => g (u1.symm.trans w))]
        obtain ⟨n8, o8⟩ := mn_put n7 (by simp only [List.length_append, List.length_singleton]; omega) 33
        exact ⟨o8, trivial⟩
    · have E1a : f_X10_of (f_X10_puts d 32) (nI j) 1 = nI b := E1.1
      have E2a : f_X10_of (f_X10_puts (f_X10_number (f_X10_puts d 32) (nI b)) 45) (nI j) 2 = nI c := E2.1
      have E3a : f_X10_of (f_X10_puts (f_X10_puts (f_X10_number (f_X10_puts (f_X10_number (f_X10_puts d 32) (nI b)) 45) (nI c)) 32) 107) (nI j) 3 = nI e := E3.1
      unfold wnV
      simp only [E1a, E2a, E3a]
      have n7 : MN d0 (f_X10_number (f_X10_puts (f_X10_puts (f_X10_number (f_X10_puts (f_X10_number (f_X10_puts d 32) (nI b)) 45) (nI c)) 32) 107) (nI e)) (l ++ [32] ++ dig b ++ [45] ++ dig c ++ [32, 107] ++ dig e) := by
        have := n7
        simp only [List.append_assoc, List.singleton_append, List.cons_append, List.nil_append] at this ⊢
        exact this
      by_cases g : U = 0
      · rw [if_pos (show f_X10_unlocked _ (nI j) _ = 0 from u1.trans g), if_pos g, List.append_nil]
        obtain ⟨f, n, ed, hx⟩ := id n7
        refine ⟨?_, n7⟩
        rw [ed]
        exact hx.1
      · rw [if_neg (show ¬ f_X10_unlocked _ (nI j) _ = 0 from fun w => g (u1.symm.trans w)), if_neg g]
        obtain ⟨n8, -⟩ := mn_put n7 (by simp only [List.length_append, List.length_singleton, List.length_cons, List.length_nil]; omega) 33
        have n8 : MN d0 (f_X10_puts (f_X10_number (f_X10_puts (f_X10_puts (f_X10_number (f_X10_puts (f_X10_number (f_X10_puts d 32) (nI b)) 45) (nI c)) 32) 107) (nI e)) 33) _ := n8
        obtain ⟨f, n, ed, hx⟩ := id n8
        refine ⟨?_, n8⟩
        rw [ed]
        exact hx.1
  intro k
  induction k with
  | zero =>
    intro i d l hi h hl
    have : i = 8 := by omega
    subst this
    have E0 := q0 d (mn_of h)
    unfold okl_lp_X10_writeNotice_47 lp_X10_writeNotice_47 bitl
    rw [List.append_nil, if_pos (show (8 : Int32) ≤ nI 8 by decide), if_pos (show (8 : Int32) ≤ nI 8 by decide), E0.1]
    by_cases g : nI a = 0
    · obtain ⟨n0, o0⟩ := mn_put h (by omega) 45
      obtain ⟨L, hL, k1, k2, k3⟩ := tail _ _ n0 (by rw [List.length_append]; show l.length + 1 ≤ 13; omega)
      rw [if_pos g, if_pos g, if_pos g]
      exact ⟨L, hL, ⟨E0.2, o0, k1⟩, k2, k3⟩
    · obtain ⟨L, hL, k1, k2, k3⟩ := tail d l h (by omega)
      rw [if_neg g, if_neg g, if_neg g, List.append_nil]
      exact ⟨L, hL, ⟨E0.2, k1⟩, k2, k3⟩
  | succ k ih =>
    intro i d l hi h hl
    have n8 : ¬ (8 : Int32) ≤ nI i := nI_ge (b := 8) (by omega) (by decide)
    have E0 := q0 d (mn_of h)
    unfold okl_lp_X10_writeNotice_47 lp_X10_writeNotice_47
    rw [if_neg n8, if_neg n8, E0.1, nI_1]
    by_cases g : ((nI a >>> (nI i &&& 31)) &&& 1) = 1
    · obtain ⟨n1, o1⟩ := mn_num h (by omega) (v := i) (by omega)
      rw [dig_1 (by omega)] at n1
      obtain ⟨L, hL, k1, k2, k3⟩ := ih (i + 1) _ _ (by omega) n1 (by rw [List.length_append]; show l.length + 1 + k ≤ 12; omega)
      have eb : l ++ bitl (nI a) (k + 1) i = l ++ [48 + i] ++ bitl (nI a) k (i + 1) := by
        show l ++ ((if ((nI a >>> (nI i &&& 31)) &&& 1) = 1 then [48 + i] else []) ++ bitl (nI a) k (i + 1)) = _
        rw [if_pos g, List.append_assoc]
      rw [if_pos g, if_pos g, eb]
      exact ⟨L, hL, ⟨E0.2, o1, k1⟩, k2, k3⟩
    · obtain ⟨L, hL, k1, k2, k3⟩ := ih (i + 1) d l (by omega) h (by omega)
      have eb : l ++ bitl (nI a) (k + 1) i = l ++ bitl (nI a) k (i + 1) := by
        show l ++ ((if ((nI a >>> (nI i &&& 31)) &&& 1) = 1 then [48 + i] else []) ++ bitl (nI a) k (i + 1)) = _
        rw [if_neg g]; rfl
      rw [if_neg g, if_neg g, eb]
      exact ⟨L, hL, ⟨E0.2, k1⟩, k2, k3⟩
