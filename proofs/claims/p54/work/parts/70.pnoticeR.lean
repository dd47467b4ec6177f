theorem g_ch {x : Int32} (h1 : ¬ x < 32) (h2 : x ≤ 126) : ∃ c, 32 ≤ c ∧ c ≤ 126 ∧ x = nI c := g_nat (lo := 32) (n := 126) (by decide) (by decide) h1 h2
theorem R_type {B : Nat} {q : McV} {v sn : StV} {hi : HiV} {hs : Nat → StV} {tb nt : SbV} {d : MoV} (h : RW B q v sn hi hs tb nt d) (pg : PrV) (x : Int32) : (ok_X10_type d x ∧ ok_X9_type q pg tb x) ∧ RC ["java/lang/IllegalArgumentException", "java/lang/IllegalStateException"] (f_X9_type q pg tb x).1 (f_X9_type q pg tb x).2.1 (f_X10_type d x).1 (f_X10_type d x).2.2.2.2.2.2.1 ∧ RW B q v sn hi hs (f_X9_type q pg tb x).2.2 nt (f_X10_type d x).2 := by
  obtain ⟨r1, r2, r3, r4, r5, r6, r7⟩ := id h
  obtain ⟨l, hT, hM, hl, hch⟩ := r6
  have e2 : d.2.2.2.2.2.2.2.2.2.2.2.2.2.2.1 = nI l.length := hM.1
  have e1 : f_X6_length pg tb = nI l.length := tx_len hT
  unfold ok_X10_type ok_X9_type f_X9_type f_X10_type
  rcases g_rng x 32 126 with ⟨k1, k2⟩ | ⟨k1, k2, k3, k4⟩
  · simp only [k1, k2, eq_self, ite_true, ite_false, S2, m_thr1]
    exact ⟨⟨trivial, trivial⟩, RC.x1 (by decide), h.thr 1⟩
  · obtain ⟨c, c1, c2, rfl⟩ := g_ch k3 k4
    by_cases h60 : l.length = 60
    · have n1 : (nI l.length = (60 : Int32)) = True := eq_true (by rw [h60]; rfl)
      have n2 : (nI l.length < (60 : Int32)) = False := eq_false (by rw [h60]; decide)
      simp only [k1, k2, eq_self, ite_true, ite_false, L10, m_thr0, m_thr1, e1, e2, n1, n2]
      exact ⟨⟨trivial, trivial⟩, RC.x2 (by decide), h.thr 2⟩
    · have n1 : (nI l.length = (60 : Int32)) = False := eq_false (by rw [q_60, nI_eq (by omega) (by omega)]; exact h60)
      have n2 : (nI l.length < (60 : Int32)) = True := eq_true (nI_lt (b := 60) (by omega) (by decide))
      obtain ⟨t1, t2⟩ := tx_char hT (by omega) (c := c) (by omega)
      have ha : f_X6_append pg tb (nI c) = (nI (l.length + 1), f_J4_append_cf468 tb (nI c)) := by
        unfold f_X6_append
        simp only [tx_len t2]
        rw [List.length_append]; rfl
      simp only [k1, k2, eq_self, ite_true, ite_false, L10, m_thr0, e1, e2, n1, n2, ha, nI_1]
      refine ⟨⟨⟨vp_in_nI (by omega) (by decide), trivial⟩, ⟨t1, trivial⟩, trivial⟩, RC.ok rfl, r1, r2, r3, r4, r5, ⟨l ++ [c], t2, ?_, ?_, fun y hy => ?_⟩, r7⟩
      · have := mx_put hM (by omega) c
        rw [e2, nI_1] at this
        exact this
      · rw [List.length_append]; show l.length + 1 ≤ 60; omega
      · rcases List.mem_append.mp hy with g | g
        · exact hch y g
        · rw [List.mem_singleton.mp g]; omega
theorem R_writeNotice {B : Nat} {q : McV} {v sn : StV} {hi : HiV} {hs : Nat → StV} {tb nt : SbV} {d : MoV} (h : RW B q v sn hi hs tb nt d) (hB : B < 2 ^ 29) (x : Int32) : (ok_X10_writeNotice d x ∧ ok_X9_writeNotice q v nt x) ∧ RC ["java/lang/IndexOutOfBoundsException"] (f_X9_writeNotice q v nt x).1 (f_X9_writeNotice q v nt x).2.1 (f_X10_writeNotice d x).1 (f_X10_writeNotice d x).2.2.2.2.2.2.1 ∧ RW B q v sn hi hs tb (f_X9_writeNotice q v nt x).2.2 (f_X10_writeNotice d x).2 := by
  obtain ⟨t, cy, ht, hcy, hcy2, e1, e2, e3, e4, hD, hE, hP, hA⟩ := id h.1
  obtain ⟨r1, r2, r3, r4, r5, r6, l0, hT, hM, hl0⟩ := id h
  obtain ⟨nd, d1, d2, d3, d4⟩ := id hD
  unfold ok_X10_writeNotice ok_X9_writeNotice f_X9_writeNotice f_X10_writeNotice f_X9_requireDoor
  rw [m_door hD]
  rcases h_do v.2.2.1 d1 d2 x with e | ⟨e, j, hj, rfl⟩
  · simp only [e, eq_self, ite_true, ite_false, S1, m_thr1]
    exact ⟨⟨trivial, trivial⟩, RC.x1 (by decide), h.thr 1⟩
  · have hj8 : j < 8 := by omega
    obtain ⟨a, b, c, k, ha, hb, hc, hk, s1, s2, s3, s4, s5, s6, s7, s8⟩ := d4 j hj8
    obtain ⟨db, -⟩ := dig_len b
    obtain ⟨dc, -⟩ := dig_len c
    obtain ⟨dk, -⟩ := dig_len k
    have dj := dig_1 (show j < 10 by omega)
    -- the class
    obtain ⟨o1, t1⟩ := tx_clear hT
    obtain ⟨o2, t2⟩ : ok_J4_append_cf468 (f_J4_setLength_d00df nt 0) 100 ∧ TX (f_J4_append_cf468 (f_J4_setLength_d00df nt 0) 100) ([] ++ [100]) := tx_char t1 (by decide) (c := 100) (by decide)
    obtain ⟨o3, t3⟩ := tx_int t2 (by decide) (v := j) (by omega)
    obtain ⟨o4, t4⟩ : ok_J4_append_cf468 (f_J4_append_bf812 (f_J4_append_cf468 (f_J4_setLength_d00df nt 0) 100) (nI j)) 32 ∧ TX (f_J4_append_cf468 (f_J4_append_bf812 (f_J4_append_cf468 (f_J4_setLength_d00df nt 0) 100) (nI j)) 32) ([] ++ [100] ++ dig j ++ [32]) := tx_char t3 (by rw [dj]; exact Nat.le_of_ble_eq_true rfl) (c := 32) (by decide)
    obtain ⟨o5, t5⟩ := c_desc (D := v.2.2.1) hj8 hb hc hk s2 s3 s4 t4 (by rw [dj]; exact Nat.le_of_ble_eq_true rfl)
    have pl := phl_len (v.2.2.1.2.1 j)
    obtain ⟨o6, t6⟩ : ok_J4_append_cf468 (f_X2_describe v.2.2.1 (nI j) (f_J4_append_cf468 (f_J4_append_bf812 (f_J4_append_cf468 (f_J4_setLength_d00df nt 0) 100) (nI j)) 32)) 33 ∧ TX (f_J4_append_cf468 (f_X2_describe v.2.2.1 (nI j) (f_J4_append_cf468 (f_J4_append_bf812 (f_J4_append_cf468 (f_J4_setLength_d00df nt 0) 100) (nI j)) 32)) 33) ([] ++ [100] ++ dig j ++ [32] ++ phl (v.2.2.1.2.1 j) ++ [32] ++ dig b ++ [45] ++ dig c ++ [32, 107] ++ dig k ++ [33]) := tx_char t5 (by simp only [List.length_append, List.length_singleton, List.length_cons, List.length_nil, dj]; omega) (c := 33) (by decide)
    -- the reference
    obtain ⟨u1, u2, u3⟩ := c_unl (d := d) h.1 hj8 (tm := t) (by omega)
    have hu : ∀ d' : MoV, d'.1 = d.1 → f_X10_unlocked d' (nI j) (d'.1 (0 : Int32).toNatClampNeg) = f_X8_isUnlockedAt v (nI j) v.1 ∧ ok_X10_unlocked d' (nI j) (d'.1 (0 : Int32).toNatClampNeg) := fun d' hd => by
      have h' : RS B v d'.1 := by rw [hd]; exact h.1
      obtain ⟨w1, w2, -⟩ := c_unl (d := d') h' hj8 (tm := t) (by omega)
      rw [show ((0 : Int32).toNatClampNeg) = 0 from rfl, hd, e2, e1]
      exact ⟨w1.symm, w2⟩
    have m0 : MN (mo5 d 0) (mo11 (mo5 d 0) 0) [] := ⟨d.2.2.2.2.2.2.2.2.2.2.1, 0, rfl, rfl, fun i hi => absurd hi (Nat.not_lt_zero i)⟩
    obtain ⟨n1, p1⟩ : MN (mo5 d 0) (f_X10_puts (mo11 (mo5 d 0) 0) 100) ([] ++ [100]) ∧ ok_X10_puts (mo11 (mo5 d 0) 0) 100 := mn_put m0 (by decide) 100
    obtain ⟨n2, p2⟩ := mn_num n1 (by decide) (v := j) (by omega)
    obtain ⟨n3, p3⟩ : MN (mo5 d 0) (f_X10_puts (f_X10_number (f_X10_puts (mo11 (mo5 d 0) 0) 100) (nI j)) 32) ([] ++ [100] ++ dig j ++ [32]) ∧ ok_X10_puts (f_X10_number (f_X10_puts (mo11 (mo5 d 0) 0) 100) (nI j)) 32 := mn_put n2 (by rw [dj]; exact Nat.le_of_ble_eq_true rfl) 32
    obtain ⟨L, hL, k1, k2, k3⟩ := m_wn_lp (d0 := mo5 d 0) hj8 hb hc hk s5 ha s6 s7 s8 hu d (mo5 d 0) (f_X10_puts (mo11 (mo5 d 0) 0) 100) (f_X10_number (f_X10_puts (mo11 (mo5 d 0) 0) 100) (nI j)) (f_X10_puts (f_X10_number (f_X10_puts (mo11 (mo5 d 0) 0) 100) (nI j)) 32) 8 0 _ _ (by decide) n3 (by rw [dj]; exact Nat.le_of_ble_eq_true rfl)
    have k1 : okl_lp_X10_writeNotice_47 d (nI j) (mo5 d 0) (f_X10_puts (mo11 (mo5 d 0) 0) 100) (f_X10_number (f_X10_puts (mo11 (mo5 d 0) 0) 100) (nI j)) (f_X10_puts (f_X10_number (f_X10_puts (mo11 (mo5 d 0) 0) 100) (nI j)) 32) 9 0 (f_X10_puts (f_X10_number (f_X10_puts (mo11 (mo5 d 0) 0) 100) (nI j)) 32) := k1
    generalize hW : lp_X10_writeNotice_47 d (nI j) (mo5 d 0) (f_X10_puts (mo11 (mo5 d 0) 0) 100) (f_X10_number (f_X10_puts (mo11 (mo5 d 0) 0) 100) (nI j)) (f_X10_puts (f_X10_number (f_X10_puts (mo11 (mo5 d 0) 0) 100) (nI j)) 32) (8 + 1) (nI 0) (f_X10_puts (f_X10_number (f_X10_puts (mo11 (mo5 d 0) 0) 100) (nI j)) 32) = W at k2 k3
    have hW : lp_X10_writeNotice_47 d (nI j) (mo5 d 0) (f_X10_puts (mo11 (mo5 d 0) 0) 100) (f_X10_number (f_X10_puts (mo11 (mo5 d 0) 0) 100) (nI j)) (f_X10_puts (f_X10_number (f_X10_puts (mo11 (mo5 d 0) 0) 100) (nI j)) 32) 9 0 (f_X10_puts (f_X10_number (f_X10_puts (mo11 (mo5 d 0) 0) 100) (nI j)) 32) = W := hW
    have hph : phl (v.2.2.1.2.1 j) = bitl (nI a) 8 0 ++ (if nI a = 0 then [45] else []) := by
      unfold phl
      rw [s1]
      by_cases g : nI a = 0
      · rw [if_pos g, if_pos g, g, bit0]; rfl
      · rw [if_neg g, if_neg g, List.append_nil]
    obtain ⟨f, n, ed, hx⟩ := id k3
    have hlen : ∀ X : List Nat, X = L → X.length ≤ 40 := fun X hX => by
      rw [hX, hL]
      have bl := bitl_len (nI a) 8 0
      simp only [List.length_append, List.length_singleton, List.length_cons, List.length_nil, dj]
      split <;> split <;> simp only [List.length_singleton, List.length_nil] <;> omega
    by_cases g : f_X8_isUnlockedAt v (nI j) v.1 = 0
    · have eL : [] ++ [100] ++ dig j ++ [32] ++ phl (v.2.2.1.2.1 j) ++ [32] ++ dig b ++ [45] ++ dig c ++ [32, 107] ++ dig k = L := by
        rw [hL, hph, if_pos g, List.append_nil]
        simp only [List.append_assoc]
      rw [eL] at t5
      simp only [e, L10, eq_self, ite_true, ite_false, m_thr0, g, hW, tx_len t5]
      refine ⟨⟨⟨p1, p2, p3, k1⟩, o1, o2, o3, o4, o5, trivial⟩, ?_, ?_⟩
      · rw [show W.2.2.2.2.2.2.1 = 0 by rw [ed]]
        exact RC.ok k2.symm
      · rw [ed]
        exact ⟨r1, r2, r3, r4, r5, r6, L, t5, hx, hlen L rfl⟩
    · have eL : [] ++ [100] ++ dig j ++ [32] ++ phl (v.2.2.1.2.1 j) ++ [32] ++ dig b ++ [45] ++ dig c ++ [32, 107] ++ dig k ++ [33] = L := by
        rw [hL, hph, if_neg g]
        simp only [List.append_assoc]
      rw [eL] at t6
      simp only [e, L10, eq_self, ite_true, ite_false, m_thr0, eq_false g, hW, tx_len t6]
      refine ⟨⟨⟨p1, p2, p3, k1⟩, o1, o2, o3, o4, o5, o6, trivial⟩, ?_, ?_⟩
      · rw [show W.2.2.2.2.2.2.1 = 0 by rw [ed]]
        exact RC.ok k2.symm
      · rw [ed]
        exact ⟨r1, r2, r3, r4, r5, r6, L, t6, hx, hlen L rfl⟩
