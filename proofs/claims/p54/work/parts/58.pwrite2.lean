theorem R_setRule {B : Nat} {q : McV} {v sn : StV} {hi : HiV} {hs : Nat → StV} {tb nt : SbV} {d : MoV} (h : RW B q v sn hi hs tb nt d) (dr ph fh lh k : Int32) : ok_X10_setRule d dr ph fh lh k ∧ RC ["java/lang/IndexOutOfBoundsException", "java/lang/IllegalArgumentException"] (f_X9_setRule q v hi hs dr ph fh lh k).1 (f_X9_setRule q v hi hs dr ph fh lh k).2.1 (f_X10_setRule d dr ph fh lh k).1 (f_X10_setRule d dr ph fh lh k).2.2.2.2.2.2.1 ∧
    RW B q (f_X9_setRule q v hi hs dr ph fh lh k).2.2.1 sn (f_X9_setRule q v hi hs dr ph fh lh k).2.2.2.1 (f_X9_setRule q v hi hs dr ph fh lh k).2.2.2.2 tb nt (f_X10_setRule d dr ph fh lh k).2 := by
  obtain ⟨t, c, ht, hc, hc2, e1, e2, e3, e4, hD, hE, hP, hA⟩ := id h.1
  obtain ⟨n, d1, d2, d3, d4⟩ := id hD
  obtain ⟨k1, k2⟩ := m_keeps d
  generalize hw0 : (fun q => if q < 249 then d.1 q else d.2.1 q) = w at k1
  have hw : ∀ j, j < 249 → w j = d.1 j := fun j hj => by rw [← hw0]; exact keeps_w d j hj
  have md := fun x => m_door (d := mo5 (mo1 d w) 0) hD x
  unfold ok_X10_setRule f_X9_setRule f_X10_setRule f_X9_requireDoor
  rw [k1]
  simp only [md]
  rcases h_do v.2.2.1 d1 d2 dr with e | ⟨e, j, hj, rfl⟩
  · simp only [e, eq_self, ite_true, ite_false, S1, m_thr1]
    exact ⟨⟨k2, trivial⟩, RC.x1 (by decide), h⟩
  · have hj8 : j < 8 := by omega
    rcases rule_case ph fh lh k with ⟨r1, r2⟩ | ⟨r1, r2, a, b, c', g, ha, hb, hc', hg, rfl, rfl, rfl, rfl⟩
    · simp only [e, r1, r2, L10, eq_self, ite_true, ite_false, tf2, S2, m_thr0, m_thr1]
      exact ⟨⟨k2, trivial⟩, RC.x2 (by decide), h⟩
    · obtain ⟨u1, u2⟩ := m_rules (mo5 (mo1 d w) 0) (a := a) (b := b) (c := c') (e := g) hj8
      obtain ⟨p1, p2, -⟩ := c_key (d := mo5 (mo1 d w) 0) hD hj8
      have hS : RS B (v.1, v.2.1, (nI n, upd v.2.2.1.2.1 j (nI a), upd v.2.2.1.2.2.1 j (nI b), upd v.2.2.1.2.2.2.1 j (nI c'), upd v.2.2.1.2.2.2.2 j (nI g)), v.2.2.2.1, v.2.2.2.2.1, v.2.2.2.2.2) (sRule d.1 j a b c' g) := by
        have fr : ∀ q, q < 11 ∨ 43 ≤ q → sRule d.1 j a b c' g q = d.1 q := fun q hq => sRule_ne _ (by omega)
        refine ⟨t, c, ht, hc, hc2, e1, ?_, e3, ?_, ?_, hE.congr (fun j hj => fr j (by omega)), hP.congr (fun j hj => fr j (by omega)), hA.congr (fun j hj => fr j (by omega))⟩
        · rw [fr 0 (by decide)]; exact e2
        · rw [fr 1 (by decide)]; exact e4
        · exact hD.rule hj8 ha hb hc' hg d1 (fun q hq => rfl) ((fr 2 (by decide)).trans d3)
      obtain ⟨z1, z2, z3, z4⟩ := m_modify h (Nat.le_refl B) _ (f_X2_keyFor v.2.2.1 (nI j)) hS w hw
      simp only [e, r1, r2, L10, eq_self, ite_true, ite_false, tf0, m_thr0]
      have u1 : f_X10_rules (mo5 (mo5 (mo5 (mo1 d w) 0) 0) 0) (nI j) (nI a) (nI b) (nI c') (nI g) = mo5 (mo0 (mo1 d w) (sRule d.1 j a b c' g)) 0 := u1
      have u2 : ok_X10_rules (mo5 (mo5 (mo5 (mo1 d w) 0) 0) 0) (nI j) (nI a) (nI b) (nI c') (nI g) := u2
      have p1 : f_X10_of (mo5 (mo5 (mo5 (mo1 d w) 0) 0) 0) (nI j) 3 = f_X2_keyFor v.2.2.1 (nI j) := p1.symm
      have p2 : ok_X10_of (mo5 (mo5 (mo5 (mo1 d w) 0) 0) 0) (nI j) 3 := p2
      rw [p1, u1, c_write _ hj8, d2]
      refine ⟨⟨k2, p2, u2, z1, trivial⟩, ?_, z4⟩
      rw [z2, z3]
      exact RC.ok rfl
theorem R_addPerson {B : Nat} {q : McV} {v sn : StV} {hi : HiV} {hs : Nat → StV} {tb nt : SbV} {d : MoV} (h : RW B q v sn hi hs tb nt d) : ok_X10_addPerson d ∧ RC ["java/lang/IllegalStateException"] (f_X9_addPerson q v hi hs).1 (f_X9_addPerson q v hi hs).2.1 (f_X10_addPerson d).1 (f_X10_addPerson d).2.2.2.2.2.2.1 ∧
    RW B q (f_X9_addPerson q v hi hs).2.2.1 sn (f_X9_addPerson q v hi hs).2.2.2.1 (f_X9_addPerson q v hi hs).2.2.2.2 tb nt (f_X10_addPerson d).2 := by
  obtain ⟨t, c, ht, hc, hc2, e1, e2, e3, e4, hD, hE, hP, hA⟩ := id h.1
  obtain ⟨n, d1, d2, d3, d4⟩ := id hP
  obtain ⟨k1, k2⟩ := m_keeps d
  generalize hw0 : (fun q => if q < 249 then d.1 q else d.2.1 q) = w at k1
  have hw : ∀ j, j < 249 → w j = d.1 j := fun j hj => by rw [← hw0]; exact keeps_w d j hj
  have g3 : ((3 : Int32).toNatClampNeg) = 3 := rfl
  unfold ok_X10_addPerson f_X9_addPerson f_X10_addPerson
  rw [k1]
  simp only [g3, d3, d2]
  by_cases h6 : n = 6
  · subst h6
    simp only [eq_true (show nI 6 = (6 : Int32) from rfl), eq_false (show ¬ nI 6 < (6 : Int32) by decide), ite_true, ite_false, m_thr1]
    exact ⟨⟨k2, trivial⟩, RC.x1 (by decide), h⟩
  · have hn : (nI n = (6 : Int32)) = False := eq_false (by rw [q_6, nI_eq (by omega) (by omega)]; exact h6)
    have hl : (nI n < (6 : Int32)) = True := eq_true (nI_lt (b := 6) (by omega) (by decide))
    have hS : RS B (v.1, v.2.1, v.2.2.1, v.2.2.2.1, (nI (n + 1), v.2.2.2.2.1.2.1, v.2.2.2.2.1.2.2), v.2.2.2.2.2) (upd d.1 3 (nI (n + 1))) := by
      refine ⟨t, c, ht, hc, hc2, e1, ?_, e3, ?_, hD.congr (fun j hj => upd_ne _ _ (by omega)), hE.congr (fun j hj => upd_ne _ _ (by omega)), ?_, hA.congr (fun j hj => upd_ne _ _ (by omega))⟩
      · rw [upd_ne _ _ (by decide)]; exact e2
      · rw [upd_ne _ _ (by decide)]; exact e4
      · refine ⟨n + 1, by omega, rfl, upd_eq _ _ _, fun j hj => ?_⟩
        rw [upd_ne _ _ (by omega), upd_ne _ _ (by omega)]
        exact d4 j hj
    obtain ⟨z1, z2, z3, z4⟩ := m_modify h (Nat.le_refl B) _ (nI n) hS w hw
    simp only [hn, hl, ite_true, ite_false, m_thr0, d3, nI_1, upd_eq, nI_pred]
    refine ⟨⟨k2, z1, trivial⟩, ?_, ?_⟩
    · have z2 : (f_X10_ends (mo0 (mo5 (mo5 (mo1 d w) 0) 0) (upd d.1 3 (nI (n + 1)))) (nI n)).1 = nI n := z2
      have z3 : (f_X10_ends (mo0 (mo5 (mo5 (mo1 d w) 0) 0) (upd d.1 3 (nI (n + 1)))) (nI n)).2.2.2.2.2.2.1 = 0 := z3
      rw [z2, z3]
      exact RC.ok d2
    · have ea : (f_X5_append v.2.2.2.2.1).2 = (nI (n + 1), v.2.2.2.2.1.2.1, v.2.2.2.2.1.2.2) := by
        unfold f_X5_append
        rw [d2, nI_1]
      rw [ea]
      exact z4
