theorem tev {α : Type} {th k c1 c2 c3 : Int32} (h : th = k) (h2 : k = 0 → c2 = c1 ∧ c3 = c1) (a z1 z2 z3 : α) : (if th = k then (if k = (0 : Int32) then (if c1 = (0 : Int32) then a else (if c2 = (0 : Int32) then z1 else (if c3 = (0 : Int32) then z2 else a))) else a) else z3) = a := by
  rw [if_pos h]
  by_cases e : k = 0
  · obtain ⟨e1, e2⟩ := h2 e
    rw [if_pos e, e1, e2]
    by_cases f : c1 = 0
    · rw [if_pos f]
    · rw [if_neg f, if_neg f, if_neg f]
  · rw [if_neg e]
theorem tei {th k c1 c2 c3 : Int32} (h : th = k) (h2 : k = 0 → c2 = c1 ∧ c3 = c1) : (if th = k then (if k = (0 : Int32) then (if c1 = (0 : Int32) then True else (if c2 = (0 : Int32) then False else (if c3 = (0 : Int32) then False else True))) else True) else False) := by
  rw [if_pos h]
  by_cases e : k = 0
  · obtain ⟨e1, e2⟩ := h2 e
    rw [if_pos e, e1, e2]
    by_cases f : c1 = 0
    · rw [if_pos f]; trivial
    · rw [if_neg f, if_neg f, if_neg f]; trivial
  · rw [if_neg e]; trivial
set_option maxHeartbeats 4000000 in
set_option maxRecDepth 100000 in
theorem P_K0 {B : Nat} {q : McV} {v o : StV} {hi : HiV} {hs : Nat → StV} {tb nb : SbV} {d : MoV} (h : RW B q v o hi hs tb nb d) (hB : B < 2 ^ 25) (pg : PrV) (ow : Nat → Int64) (od : Nat → UInt64) (xs : Nat → Int32) (j : Nat) : ok_K0 q v o hi hs pg tb nb d ow od xs j ∧ LR (B + 10000) (f_K0 q v o hi hs pg tb nb d ow od xs j) := by
  obtain ⟨O, C, Wn⟩ := R_addDoor h (xs ((nI j) + (1 : Int32)).toNatClampNeg) (xs ((nI j) + (2 : Int32)).toNatClampNeg) (xs ((nI j) + (3 : Int32)).toNatClampNeg) (xs ((nI j) + (4 : Int32)).toNatClampNeg)
  obtain ⟨p1, p2, p3, p4, p5, p6⟩ := PL_addDoor q v hi hs (xs ((nI j) + (1 : Int32)).toNatClampNeg) (xs ((nI j) + (2 : Int32)).toNatClampNeg) (xs ((nI j) + (3 : Int32)).toNatClampNeg) (xs ((nI j) + (4 : Int32)).toNatClampNeg) ow h.nx C
  have p2 : f_X10_thrown (f_X10_addDoor d (xs ((nI j) + (1 : Int32)).toNatClampNeg) (xs ((nI j) + (2 : Int32)).toNatClampNeg) (xs ((nI j) + (3 : Int32)).toNatClampNeg) (xs ((nI j) + (4 : Int32)).toNatClampNeg)).2 = (f_L_addDoor q v hi hs (xs ((nI j) + (1 : Int32)).toNatClampNeg) (xs ((nI j) + (2 : Int32)).toNatClampNeg) (xs ((nI j) + (3 : Int32)).toNatClampNeg) (xs ((nI j) + (4 : Int32)).toNatClampNeg) ow).1 := p2
  have e : f_K0 q v o hi hs pg tb nb d ow od xs j = (q, (f_L_addDoor q v hi hs (xs ((nI j) + (1 : Int32)).toNatClampNeg) (xs ((nI j) + (2 : Int32)).toNatClampNeg) (xs ((nI j) + (3 : Int32)).toNatClampNeg) (xs ((nI j) + (4 : Int32)).toNatClampNeg) ow).2.1, o, (f_L_addDoor q v hi hs (xs ((nI j) + (1 : Int32)).toNatClampNeg) (xs ((nI j) + (2 : Int32)).toNatClampNeg) (xs ((nI j) + (3 : Int32)).toNatClampNeg) (xs ((nI j) + (4 : Int32)).toNatClampNeg) ow).2.2.1, (f_L_addDoor q v hi hs (xs ((nI j) + (1 : Int32)).toNatClampNeg) (xs ((nI j) + (2 : Int32)).toNatClampNeg) (xs ((nI j) + (3 : Int32)).toNatClampNeg) (xs ((nI j) + (4 : Int32)).toNatClampNeg) ow).2.2.2.1, pg, tb, nb, (f_X10_addDoor d (xs ((nI j) + (1 : Int32)).toNatClampNeg) (xs ((nI j) + (2 : Int32)).toNatClampNeg) (xs ((nI j) + (3 : Int32)).toNatClampNeg) (xs ((nI j) + (4 : Int32)).toNatClampNeg)).2, (f_L_addDoor q v hi hs (xs ((nI j) + (1 : Int32)).toNatClampNeg) (xs ((nI j) + (2 : Int32)).toNatClampNeg) (xs ((nI j) + (3 : Int32)).toNatClampNeg) (xs ((nI j) + (4 : Int32)).toNatClampNeg) ow).2.2.2.2, od) := by
    unfold f_K0
    exact tv p2 p3 _ _ _
  refine ⟨by unfold ok_K0; exact ⟨p1, O, ti p2 p3⟩, ?_⟩
  rw [e]
  show RW (B + 10000) q ((f_L_addDoor q v hi hs (xs ((nI j) + (1 : Int32)).toNatClampNeg) (xs ((nI j) + (2 : Int32)).toNatClampNeg) (xs ((nI j) + (3 : Int32)).toNatClampNeg) (xs ((nI j) + (4 : Int32)).toNatClampNeg) ow).2.1) o ((f_L_addDoor q v hi hs (xs ((nI j) + (1 : Int32)).toNatClampNeg) (xs ((nI j) + (2 : Int32)).toNatClampNeg) (xs ((nI j) + (3 : Int32)).toNatClampNeg) (xs ((nI j) + (4 : Int32)).toNatClampNeg) ow).2.2.1) ((f_L_addDoor q v hi hs (xs ((nI j) + (1 : Int32)).toNatClampNeg) (xs ((nI j) + (2 : Int32)).toNatClampNeg) (xs ((nI j) + (3 : Int32)).toNatClampNeg) (xs ((nI j) + (4 : Int32)).toNatClampNeg) ow).2.2.2.1) tb nb ((f_X10_addDoor d (xs ((nI j) + (1 : Int32)).toNatClampNeg) (xs ((nI j) + (2 : Int32)).toNatClampNeg) (xs ((nI j) + (3 : Int32)).toNatClampNeg) (xs ((nI j) + (4 : Int32)).toNatClampNeg)).2)
  rw [p4, p5, p6]
  exact Wn.mono (by omega)
set_option maxHeartbeats 4000000 in
set_option maxRecDepth 100000 in
theorem P_K1 {B : Nat} {q : McV} {v o : StV} {hi : HiV} {hs : Nat → StV} {tb nb : SbV} {d : MoV} (h : RW B q v o hi hs tb nb d) (hB : B < 2 ^ 25) (pg : PrV) (ow : Nat → Int64) (od : Nat → UInt64) (xs : Nat → Int32) (j : Nat) : ok_K1 q v o hi hs pg tb nb d ow od xs j ∧ LR (B + 10000) (f_K1 q v o hi hs pg tb nb d ow od xs j) := by
  obtain ⟨O, C, Wn⟩ := R_setRule h (xs ((nI j) + (1 : Int32)).toNatClampNeg) (xs ((nI j) + (2 : Int32)).toNatClampNeg) (xs ((nI j) + (3 : Int32)).toNatClampNeg) (xs ((nI j) + (4 : Int32)).toNatClampNeg) (xs ((nI j) + (5 : Int32)).toNatClampNeg)
  obtain ⟨p1, p2, p3, p4, p5, p6⟩ := PL_setRule q v hi hs (xs ((nI j) + (1 : Int32)).toNatClampNeg) (xs ((nI j) + (2 : Int32)).toNatClampNeg) (xs ((nI j) + (3 : Int32)).toNatClampNeg) (xs ((nI j) + (4 : Int32)).toNatClampNeg) (xs ((nI j) + (5 : Int32)).toNatClampNeg) ow h.nx C
  have p2 : f_X10_thrown (f_X10_setRule d (xs ((nI j) + (1 : Int32)).toNatClampNeg) (xs ((nI j) + (2 : Int32)).toNatClampNeg) (xs ((nI j) + (3 : Int32)).toNatClampNeg) (xs ((nI j) + (4 : Int32)).toNatClampNeg) (xs ((nI j) + (5 : Int32)).toNatClampNeg)).2 = (f_L_setRule q v hi hs (xs ((nI j) + (1 : Int32)).toNatClampNeg) (xs ((nI j) + (2 : Int32)).toNatClampNeg) (xs ((nI j) + (3 : Int32)).toNatClampNeg) (xs ((nI j) + (4 : Int32)).toNatClampNeg) (xs ((nI j) + (5 : Int32)).toNatClampNeg) ow).1 := p2
  have e : f_K1 q v o hi hs pg tb nb d ow od xs j = (q, (f_L_setRule q v hi hs (xs ((nI j) + (1 : Int32)).toNatClampNeg) (xs ((nI j) + (2 : Int32)).toNatClampNeg) (xs ((nI j) + (3 : Int32)).toNatClampNeg) (xs ((nI j) + (4 : Int32)).toNatClampNeg) (xs ((nI j) + (5 : Int32)).toNatClampNeg) ow).2.1, o, (f_L_setRule q v hi hs (xs ((nI j) + (1 : Int32)).toNatClampNeg) (xs ((nI j) + (2 : Int32)).toNatClampNeg) (xs ((nI j) + (3 : Int32)).toNatClampNeg) (xs ((nI j) + (4 : Int32)).toNatClampNeg) (xs ((nI j) + (5 : Int32)).toNatClampNeg) ow).2.2.1, (f_L_setRule q v hi hs (xs ((nI j) + (1 : Int32)).toNatClampNeg) (xs ((nI j) + (2 : Int32)).toNatClampNeg) (xs ((nI j) + (3 : Int32)).toNatClampNeg) (xs ((nI j) + (4 : Int32)).toNatClampNeg) (xs ((nI j) + (5 : Int32)).toNatClampNeg) ow).2.2.2.1, pg, tb, nb, (f_X10_setRule d (xs ((nI j) + (1 : Int32)).toNatClampNeg) (xs ((nI j) + (2 : Int32)).toNatClampNeg) (xs ((nI j) + (3 : Int32)).toNatClampNeg) (xs ((nI j) + (4 : Int32)).toNatClampNeg) (xs ((nI j) + (5 : Int32)).toNatClampNeg)).2, (f_L_setRule q v hi hs (xs ((nI j) + (1 : Int32)).toNatClampNeg) (xs ((nI j) + (2 : Int32)).toNatClampNeg) (xs ((nI j) + (3 : Int32)).toNatClampNeg) (xs ((nI j) + (4 : Int32)).toNatClampNeg) (xs ((nI j) + (5 : Int32)).toNatClampNeg) ow).2.2.2.2, od) := by
    unfold f_K1
    exact tv p2 p3 _ _ _
  refine ⟨by unfold ok_K1; exact ⟨p1, O, ti p2 p3⟩, ?_⟩
  rw [e]
  show RW (B + 10000) q ((f_L_setRule q v hi hs (xs ((nI j) + (1 : Int32)).toNatClampNeg) (xs ((nI j) + (2 : Int32)).toNatClampNeg) (xs ((nI j) + (3 : Int32)).toNatClampNeg) (xs ((nI j) + (4 : Int32)).toNatClampNeg) (xs ((nI j) + (5 : Int32)).toNatClampNeg) ow).2.1) o ((f_L_setRule q v hi hs (xs ((nI j) + (1 : Int32)).toNatClampNeg) (xs ((nI j) + (2 : Int32)).toNatClampNeg) (xs ((nI j) + (3 : Int32)).toNatClampNeg) (xs ((nI j) + (4 : Int32)).toNatClampNeg) (xs ((nI j) + (5 : Int32)).toNatClampNeg) ow).2.2.1) ((f_L_setRule q v hi hs (xs ((nI j) + (1 : Int32)).toNatClampNeg) (xs ((nI j) + (2 : Int32)).toNatClampNeg) (xs ((nI j) + (3 : Int32)).toNatClampNeg) (xs ((nI j) + (4 : Int32)).toNatClampNeg) (xs ((nI j) + (5 : Int32)).toNatClampNeg) ow).2.2.2.1) tb nb ((f_X10_setRule d (xs ((nI j) + (1 : Int32)).toNatClampNeg) (xs ((nI j) + (2 : Int32)).toNatClampNeg) (xs ((nI j) + (3 : Int32)).toNatClampNeg) (xs ((nI j) + (4 : Int32)).toNatClampNeg) (xs ((nI j) + (5 : Int32)).toNatClampNeg)).2)
  rw [p4, p5, p6]
  exact Wn.mono (by omega)
set_option maxHeartbeats 4000000 in
set_option maxRecDepth 100000 in
theorem P_K2 {B : Nat} {q : McV} {v o : StV} {hi : HiV} {hs : Nat → StV} {tb nb : SbV} {d : MoV} (h : RW B q v o hi hs tb nb d) (hB : B < 2 ^ 25) (pg : PrV) (ow : Nat → Int64) (od : Nat → UInt64) (xs : Nat → Int32) (j : Nat) : ok_K2 q v o hi hs pg tb nb d ow od xs j ∧ LR (B + 10000) (f_K2 q v o hi hs pg tb nb d ow od xs j) := by
  by_cases c : (xs ((nI j) + (3 : Int32)).toNatClampNeg) = (0 : Int32)
  · obtain ⟨O, C, Wn⟩ := R_addException h (by omega) (xs ((nI j) + (1 : Int32)).toNatClampNeg) (xs ((nI j) + (2 : Int32)).toNatClampNeg) (0 : Int32) (Or.inl rfl)
    obtain ⟨p1, p2, p3, p4, p5, p6⟩ := PL_addException q v hi hs (xs ((nI j) + (1 : Int32)).toNatClampNeg) (xs ((nI j) + (2 : Int32)).toNatClampNeg) (0 : Int32) ow h.nx C
    have p2 : f_X10_thrown (f_X10_addException d (xs ((nI j) + (1 : Int32)).toNatClampNeg) (xs ((nI j) + (2 : Int32)).toNatClampNeg) (0 : Int32)).2 = (f_L_addException q v hi hs (xs ((nI j) + (1 : Int32)).toNatClampNeg) (xs ((nI j) + (2 : Int32)).toNatClampNeg) (0 : Int32) ow).1 := p2
    have e : f_K2 q v o hi hs pg tb nb d ow od xs j = (q, (f_L_addException q v hi hs (xs ((nI j) + (1 : Int32)).toNatClampNeg) (xs ((nI j) + (2 : Int32)).toNatClampNeg) (0 : Int32) ow).2.1, o, (f_L_addException q v hi hs (xs ((nI j) + (1 : Int32)).toNatClampNeg) (xs ((nI j) + (2 : Int32)).toNatClampNeg) (0 : Int32) ow).2.2.1, (f_L_addException q v hi hs (xs ((nI j) + (1 : Int32)).toNatClampNeg) (xs ((nI j) + (2 : Int32)).toNatClampNeg) (0 : Int32) ow).2.2.2.1, pg, tb, nb, (f_X10_addException d (xs ((nI j) + (1 : Int32)).toNatClampNeg) (xs ((nI j) + (2 : Int32)).toNatClampNeg) (0 : Int32)).2, (f_L_addException q v hi hs (xs ((nI j) + (1 : Int32)).toNatClampNeg) (xs ((nI j) + (2 : Int32)).toNatClampNeg) (0 : Int32) ow).2.2.2.2, od) := by
      unfold f_K2
      exact (if_pos c).trans (tv p2 p3 _ _ _)
    refine ⟨by unfold ok_K2; exact (if_pos c).mpr ⟨p1, O, ti p2 p3⟩, ?_⟩
    rw [e]
    show RW (B + 10000) q ((f_L_addException q v hi hs (xs ((nI j) + (1 : Int32)).toNatClampNeg) (xs ((nI j) + (2 : Int32)).toNatClampNeg) (0 : Int32) ow).2.1) o ((f_L_addException q v hi hs (xs ((nI j) + (1 : Int32)).toNatClampNeg) (xs ((nI j) + (2 : Int32)).toNatClampNeg) (0 : Int32) ow).2.2.1) ((f_L_addException q v hi hs (xs ((nI j) + (1 : Int32)).toNatClampNeg) (xs ((nI j) + (2 : Int32)).toNatClampNeg) (0 : Int32) ow).2.2.2.1) tb nb ((f_X10_addException d (xs ((nI j) + (1 : Int32)).toNatClampNeg) (xs ((nI j) + (2 : Int32)).toNatClampNeg) (0 : Int32)).2)
    rw [p4, p5, p6]
    exact Wn.mono (by omega)
  · obtain ⟨O, C, Wn⟩ := R_addException h (by omega) (xs ((nI j) + (1 : Int32)).toNatClampNeg) (xs ((nI j) + (2 : Int32)).toNatClampNeg) (1 : Int32) (Or.inr rfl)
    obtain ⟨p1, p2, p3, p4, p5, p6⟩ := PL_addException q v hi hs (xs ((nI j) + (1 : Int32)).toNatClampNeg) (xs ((nI j) + (2 : Int32)).toNatClampNeg) (1 : Int32) ow h.nx C
    have p2 : f_X10_thrown (f_X10_addException d (xs ((nI j) + (1 : Int32)).toNatClampNeg) (xs ((nI j) + (2 : Int32)).toNatClampNeg) (1 : Int32)).2 = (f_L_addException q v hi hs (xs ((nI j) + (1 : Int32)).toNatClampNeg) (xs ((nI j) + (2 : Int32)).toNatClampNeg) (1 : Int32) ow).1 := p2
    have e : f_K2 q v o hi hs pg tb nb d ow od xs j = (q, (f_L_addException q v hi hs (xs ((nI j) + (1 : Int32)).toNatClampNeg) (xs ((nI j) + (2 : Int32)).toNatClampNeg) (1 : Int32) ow).2.1, o, (f_L_addException q v hi hs (xs ((nI j) + (1 : Int32)).toNatClampNeg) (xs ((nI j) + (2 : Int32)).toNatClampNeg) (1 : Int32) ow).2.2.1, (f_L_addException q v hi hs (xs ((nI j) + (1 : Int32)).toNatClampNeg) (xs ((nI j) + (2 : Int32)).toNatClampNeg) (1 : Int32) ow).2.2.2.1, pg, tb, nb, (f_X10_addException d (xs ((nI j) + (1 : Int32)).toNatClampNeg) (xs ((nI j) + (2 : Int32)).toNatClampNeg) (1 : Int32)).2, (f_L_addException q v hi hs (xs ((nI j) + (1 : Int32)).toNatClampNeg) (xs ((nI j) + (2 : Int32)).toNatClampNeg) (1 : Int32) ow).2.2.2.2, od) := by
      unfold f_K2
      exact (if_neg c).trans (tv p2 p3 _ _ _)
    refine ⟨by unfold ok_K2; exact (if_neg c).mpr ⟨p1, O, ti p2 p3⟩, ?_⟩
    rw [e]
    show RW (B + 10000) q ((f_L_addException q v hi hs (xs ((nI j) + (1 : Int32)).toNatClampNeg) (xs ((nI j) + (2 : Int32)).toNatClampNeg) (1 : Int32) ow).2.1) o ((f_L_addException q v hi hs (xs ((nI j) + (1 : Int32)).toNatClampNeg) (xs ((nI j) + (2 : Int32)).toNatClampNeg) (1 : Int32) ow).2.2.1) ((f_L_addException q v hi hs (xs ((nI j) + (1 : Int32)).toNatClampNeg) (xs ((nI j) + (2 : Int32)).toNatClampNeg) (1 : Int32) ow).2.2.2.1) tb nb ((f_X10_addException d (xs ((nI j) + (1 : Int32)).toNatClampNeg) (xs ((nI j) + (2 : Int32)).toNatClampNeg) (1 : Int32)).2)
    rw [p4, p5, p6]
    exact Wn.mono (by omega)
set_option maxHeartbeats 4000000 in
set_option maxRecDepth 100000 in
theorem P_K3 {B : Nat} {q : McV} {v o : StV} {hi : HiV} {hs : Nat → StV} {tb nb : SbV} {d : MoV} (h : RW B q v o hi hs tb nb d) (hB : B < 2 ^ 25) (pg : PrV) (ow : Nat → Int64) (od : Nat → UInt64) (xs : Nat → Int32) (j : Nat) : ok_K3 q v o hi hs pg tb nb d ow od xs j ∧ LR (B + 10000) (f_K3 q v o hi hs pg tb nb d ow od xs j) := by
  obtain ⟨O, C, Wn⟩ := R_liftException h (by omega) (xs ((nI j) + (1 : Int32)).toNatClampNeg) (xs ((nI j) + (2 : Int32)).toNatClampNeg)
  obtain ⟨p1, p2, p3, p4, p5, p6⟩ := PL_liftException q v hi hs (xs ((nI j) + (1 : Int32)).toNatClampNeg) (xs ((nI j) + (2 : Int32)).toNatClampNeg) ow h.nx C
  have p2 : f_X10_thrown (f_X10_liftException d (xs ((nI j) + (1 : Int32)).toNatClampNeg) (xs ((nI j) + (2 : Int32)).toNatClampNeg)).2 = (f_L_liftException q v hi hs (xs ((nI j) + (1 : Int32)).toNatClampNeg) (xs ((nI j) + (2 : Int32)).toNatClampNeg) ow).1 := p2
  have e : f_K3 q v o hi hs pg tb nb d ow od xs j = (q, (f_L_liftException q v hi hs (xs ((nI j) + (1 : Int32)).toNatClampNeg) (xs ((nI j) + (2 : Int32)).toNatClampNeg) ow).2.1, o, (f_L_liftException q v hi hs (xs ((nI j) + (1 : Int32)).toNatClampNeg) (xs ((nI j) + (2 : Int32)).toNatClampNeg) ow).2.2.1, (f_L_liftException q v hi hs (xs ((nI j) + (1 : Int32)).toNatClampNeg) (xs ((nI j) + (2 : Int32)).toNatClampNeg) ow).2.2.2.1, pg, tb, nb, (f_X10_liftException d (xs ((nI j) + (1 : Int32)).toNatClampNeg) (xs ((nI j) + (2 : Int32)).toNatClampNeg)).2, (f_L_liftException q v hi hs (xs ((nI j) + (1 : Int32)).toNatClampNeg) (xs ((nI j) + (2 : Int32)).toNatClampNeg) ow).2.2.2.2, od) := by
    unfold f_K3
    exact tvb p2 p3 _ _ _ _
  refine ⟨by unfold ok_K3; exact ⟨p1, O, tib p2 p3⟩, ?_⟩
  rw [e]
  show RW (B + 10000) q ((f_L_liftException q v hi hs (xs ((nI j) + (1 : Int32)).toNatClampNeg) (xs ((nI j) + (2 : Int32)).toNatClampNeg) ow).2.1) o ((f_L_liftException q v hi hs (xs ((nI j) + (1 : Int32)).toNatClampNeg) (xs ((nI j) + (2 : Int32)).toNatClampNeg) ow).2.2.1) ((f_L_liftException q v hi hs (xs ((nI j) + (1 : Int32)).toNatClampNeg) (xs ((nI j) + (2 : Int32)).toNatClampNeg) ow).2.2.2.1) tb nb ((f_X10_liftException d (xs ((nI j) + (1 : Int32)).toNatClampNeg) (xs ((nI j) + (2 : Int32)).toNatClampNeg)).2)
  rw [p4, p5, p6]
  exact Wn.mono (by omega)
set_option maxHeartbeats 4000000 in
set_option maxRecDepth 100000 in
theorem P_K4 {B : Nat} {q : McV} {v o : StV} {hi : HiV} {hs : Nat → StV} {tb nb : SbV} {d : MoV} (h : RW B q v o hi hs tb nb d) (hB : B < 2 ^ 25) (pg : PrV) (ow : Nat → Int64) (od : Nat → UInt64) (xs : Nat → Int32) (j : Nat) : ok_K4 q v o hi hs pg tb nb d ow od xs j ∧ LR (B + 10000) (f_K4 q v o hi hs pg tb nb d ow od xs j) := by
  obtain ⟨O, C, Wn⟩ := R_setCycle h (by omega) (xs ((nI j) + (1 : Int32)).toNatClampNeg)
  obtain ⟨p1, p2, p3, p4, p5, p6⟩ := PL_setCycle q v hi hs (xs ((nI j) + (1 : Int32)).toNatClampNeg) ow h.nx C
  have p2 : f_X10_thrown (f_X10_setCycle d (xs ((nI j) + (1 : Int32)).toNatClampNeg)).2 = (f_L_setCycle q v hi hs (xs ((nI j) + (1 : Int32)).toNatClampNeg) ow).1 := p2
  have e : f_K4 q v o hi hs pg tb nb d ow od xs j = (q, (f_L_setCycle q v hi hs (xs ((nI j) + (1 : Int32)).toNatClampNeg) ow).2.1, o, (f_L_setCycle q v hi hs (xs ((nI j) + (1 : Int32)).toNatClampNeg) ow).2.2.1, (f_L_setCycle q v hi hs (xs ((nI j) + (1 : Int32)).toNatClampNeg) ow).2.2.2.1, pg, tb, nb, (f_X10_setCycle d (xs ((nI j) + (1 : Int32)).toNatClampNeg)).2, (f_L_setCycle q v hi hs (xs ((nI j) + (1 : Int32)).toNatClampNeg) ow).2.2.2.2, od) := by
    unfold f_K4
    exact tv p2 p3 _ _ _
  refine ⟨by unfold ok_K4; exact ⟨p1, O, ti p2 p3⟩, ?_⟩
  rw [e]
  show RW (B + 10000) q ((f_L_setCycle q v hi hs (xs ((nI j) + (1 : Int32)).toNatClampNeg) ow).2.1) o ((f_L_setCycle q v hi hs (xs ((nI j) + (1 : Int32)).toNatClampNeg) ow).2.2.1) ((f_L_setCycle q v hi hs (xs ((nI j) + (1 : Int32)).toNatClampNeg) ow).2.2.2.1) tb nb ((f_X10_setCycle d (xs ((nI j) + (1 : Int32)).toNatClampNeg)).2)
  rw [p4, p5, p6]
  exact Wn.mono (by omega)
set_option maxHeartbeats 4000000 in
set_option maxRecDepth 100000 in
theorem P_K5 {B : Nat} {q : McV} {v o : StV} {hi : HiV} {hs : Nat → StV} {tb nb : SbV} {d : MoV} (h : RW B q v o hi hs tb nb d) (hB : B < 2 ^ 25) (pg : PrV) (ow : Nat → Int64) (od : Nat → UInt64) (xs : Nat → Int32) (j : Nat) : ok_K5 q v o hi hs pg tb nb d ow od xs j ∧ LR (B + 10000) (f_K5 q v o hi hs pg tb nb d ow od xs j) := by
  obtain ⟨e1, -, Wn⟩ := R_doorCount h
  have e : f_K5 q v o hi hs pg tb nb d ow od xs j = (q, v, o, hi, hs, pg, tb, nb, (f_X10_doorCount d).2, ow, od) := by
    unfold f_K5
    exact if_pos e1
  refine ⟨by unfold ok_K5; exact (if_pos e1).mpr trivial, ?_⟩
  rw [e]
  exact Wn.mono (by omega)
set_option maxHeartbeats 4000000 in
set_option maxRecDepth 100000 in
theorem P_K6 {B : Nat} {q : McV} {v o : StV} {hi : HiV} {hs : Nat → StV} {tb nb : SbV} {d : MoV} (h : RW B q v o hi hs tb nb d) (hB : B < 2 ^ 25) (pg : PrV) (ow : Nat → Int64) (od : Nat → UInt64) (xs : Nat → Int32) (j : Nat) : ok_K6 q v o hi hs pg tb nb d ow od xs j ∧ LR (B + 10000) (f_K6 q v o hi hs pg tb nb d ow od xs j) := by
  obtain ⟨O, C, Wn⟩ := R_phasesOf h (xs ((nI j) + (1 : Int32)).toNatClampNeg)
  obtain ⟨p1, p2, p3⟩ := PL_phasesOf q v (xs ((nI j) + (1 : Int32)).toNatClampNeg) ow C
  have p2 : f_X10_thrown (f_X10_phasesOf d (xs ((nI j) + (1 : Int32)).toNatClampNeg)).2 = (f_L_phasesOf q v (xs ((nI j) + (1 : Int32)).toNatClampNeg) ow).1 := p2
  have e : f_K6 q v o hi hs pg tb nb d ow od xs j = (q, v, o, hi, hs, pg, tb, nb, (f_X10_phasesOf d (xs ((nI j) + (1 : Int32)).toNatClampNeg)).2, (f_L_phasesOf q v (xs ((nI j) + (1 : Int32)).toNatClampNeg) ow).2, od) := by
    unfold f_K6
    exact tv p2 p3 _ _ _
  refine ⟨by unfold ok_K6; exact ⟨p1, O, ti p2 p3⟩, ?_⟩
  rw [e]
  show RW (B + 10000) q v o hi hs tb nb ((f_X10_phasesOf d (xs ((nI j) + (1 : Int32)).toNatClampNeg)).2)
  exact Wn.mono (by omega)
set_option maxHeartbeats 4000000 in
set_option maxRecDepth 100000 in
theorem P_K7 {B : Nat} {q : McV} {v o : StV} {hi : HiV} {hs : Nat → StV} {tb nb : SbV} {d : MoV} (h : RW B q v o hi hs tb nb d) (hB : B < 2 ^ 25) (pg : PrV) (ow : Nat → Int64) (od : Nat → UInt64) (xs : Nat → Int32) (j : Nat) : ok_K7 q v o hi hs pg tb nb d ow od xs j ∧ LR (B + 10000) (f_K7 q v o hi hs pg tb nb d ow od xs j) := by
  obtain ⟨O, C, Wn⟩ := R_keyOf h (xs ((nI j) + (1 : Int32)).toNatClampNeg)
  obtain ⟨p1, p2, p3⟩ := PL_keyOf q v (xs ((nI j) + (1 : Int32)).toNatClampNeg) ow C
  have p2 : f_X10_thrown (f_X10_keyOf d (xs ((nI j) + (1 : Int32)).toNatClampNeg)).2 = (f_L_keyOf q v (xs ((nI j) + (1 : Int32)).toNatClampNeg) ow).1 := p2
  have e : f_K7 q v o hi hs pg tb nb d ow od xs j = (q, v, o, hi, hs, pg, tb, nb, (f_X10_keyOf d (xs ((nI j) + (1 : Int32)).toNatClampNeg)).2, (f_L_keyOf q v (xs ((nI j) + (1 : Int32)).toNatClampNeg) ow).2, od) := by
    unfold f_K7
    exact tv p2 p3 _ _ _
  refine ⟨by unfold ok_K7; exact ⟨p1, O, ti p2 p3⟩, ?_⟩
  rw [e]
  show RW (B + 10000) q v o hi hs tb nb ((f_X10_keyOf d (xs ((nI j) + (1 : Int32)).toNatClampNeg)).2)
  exact Wn.mono (by omega)
set_option maxHeartbeats 4000000 in
set_option maxRecDepth 100000 in
theorem P_K8 {B : Nat} {q : McV} {v o : StV} {hi : HiV} {hs : Nat → StV} {tb nb : SbV} {d : MoV} (h : RW B q v o hi hs tb nb d) (hB : B < 2 ^ 25) (pg : PrV) (ow : Nat → Int64) (od : Nat → UInt64) (xs : Nat → Int32) (j : Nat) : ok_K8 q v o hi hs pg tb nb d ow od xs j ∧ LR (B + 10000) (f_K8 q v o hi hs pg tb nb d ow od xs j) := by
  obtain ⟨O, C, Wn⟩ := R_isHourOf h (xs ((nI j) + (1 : Int32)).toNatClampNeg) (xs ((nI j) + (2 : Int32)).toNatClampNeg)
  obtain ⟨p1, p2, p3⟩ := PL_isHourOf q v (xs ((nI j) + (1 : Int32)).toNatClampNeg) (xs ((nI j) + (2 : Int32)).toNatClampNeg) ow C
  have p2 : f_X10_thrown (f_X10_isHourOf d (xs ((nI j) + (1 : Int32)).toNatClampNeg) (xs ((nI j) + (2 : Int32)).toNatClampNeg)).2 = (f_L_isHourOf q v (xs ((nI j) + (1 : Int32)).toNatClampNeg) (xs ((nI j) + (2 : Int32)).toNatClampNeg) ow).1 := p2
  have e : f_K8 q v o hi hs pg tb nb d ow od xs j = (q, v, o, hi, hs, pg, tb, nb, (f_X10_isHourOf d (xs ((nI j) + (1 : Int32)).toNatClampNeg) (xs ((nI j) + (2 : Int32)).toNatClampNeg)).2, (f_L_isHourOf q v (xs ((nI j) + (1 : Int32)).toNatClampNeg) (xs ((nI j) + (2 : Int32)).toNatClampNeg) ow).2, od) := by
    unfold f_K8
    exact tvb p2 p3 _ _ _ _
  refine ⟨by unfold ok_K8; exact ⟨p1, O, tib p2 p3⟩, ?_⟩
  rw [e]
  show RW (B + 10000) q v o hi hs tb nb ((f_X10_isHourOf d (xs ((nI j) + (1 : Int32)).toNatClampNeg) (xs ((nI j) + (2 : Int32)).toNatClampNeg)).2)
  exact Wn.mono (by omega)
set_option maxHeartbeats 4000000 in
set_option maxRecDepth 100000 in
theorem P_K9 {B : Nat} {q : McV} {v o : StV} {hi : HiV} {hs : Nat → StV} {tb nb : SbV} {d : MoV} (h : RW B q v o hi hs tb nb d) (hB : B < 2 ^ 25) (pg : PrV) (ow : Nat → Int64) (od : Nat → UInt64) (xs : Nat → Int32) (j : Nat) : ok_K9 q v o hi hs pg tb nb d ow od xs j ∧ LR (B + 10000) (f_K9 q v o hi hs pg tb nb d ow od xs j) := by
  obtain ⟨O, C, Wn⟩ := R_hourCount h (xs ((nI j) + (1 : Int32)).toNatClampNeg)
  obtain ⟨p1, p2, p3⟩ := PL_hourCount q v (xs ((nI j) + (1 : Int32)).toNatClampNeg) ow C
  have p2 : f_X10_thrown (f_X10_hourCount d (xs ((nI j) + (1 : Int32)).toNatClampNeg)).2 = (f_L_hourCount q v (xs ((nI j) + (1 : Int32)).toNatClampNeg) ow).1 := p2
  have e : f_K9 q v o hi hs pg tb nb d ow od xs j = (q, v, o, hi, hs, pg, tb, nb, (f_X10_hourCount d (xs ((nI j) + (1 : Int32)).toNatClampNeg)).2, (f_L_hourCount q v (xs ((nI j) + (1 : Int32)).toNatClampNeg) ow).2, od) := by
    unfold f_K9
    exact tv p2 p3 _ _ _
  refine ⟨by unfold ok_K9; exact ⟨p1, O, ti p2 p3⟩, ?_⟩
  rw [e]
  show RW (B + 10000) q v o hi hs tb nb ((f_X10_hourCount d (xs ((nI j) + (1 : Int32)).toNatClampNeg)).2)
  exact Wn.mono (by omega)
set_option maxHeartbeats 4000000 in
set_option maxRecDepth 100000 in
theorem P_K10 {B : Nat} {q : McV} {v o : StV} {hi : HiV} {hs : Nat → StV} {tb nb : SbV} {d : MoV} (h : RW B q v o hi hs tb nb d) (hB : B < 2 ^ 25) (pg : PrV) (ow : Nat → Int64) (od : Nat → UInt64) (xs : Nat → Int32) (j : Nat) : ok_K10 q v o hi hs pg tb nb d ow od xs j ∧ LR (B + 10000) (f_K10 q v o hi hs pg tb nb d ow od xs j) := by
  obtain ⟨e1, -, Wn⟩ := R_exceptionCount h
  have e : f_K10 q v o hi hs pg tb nb d ow od xs j = (q, v, o, hi, hs, pg, tb, nb, (f_X10_exceptionCount d).2, ow, od) := by
    unfold f_K10
    exact if_pos e1
  refine ⟨by unfold ok_K10; exact (if_pos e1).mpr trivial, ?_⟩
  rw [e]
  exact Wn.mono (by omega)
set_option maxHeartbeats 4000000 in
set_option maxRecDepth 100000 in
theorem P_K11 {B : Nat} {q : McV} {v o : StV} {hi : HiV} {hs : Nat → StV} {tb nb : SbV} {d : MoV} (h : RW B q v o hi hs tb nb d) (hB : B < 2 ^ 25) (pg : PrV) (ow : Nat → Int64) (od : Nat → UInt64) (xs : Nat → Int32) (j : Nat) : ok_K11 q v o hi hs pg tb nb d ow od xs j ∧ LR (B + 10000) (f_K11 q v o hi hs pg tb nb d ow od xs j) := by
  obtain ⟨O, C, Wn⟩ := R_hasException h (xs ((nI j) + (1 : Int32)).toNatClampNeg) (xs ((nI j) + (2 : Int32)).toNatClampNeg)
  obtain ⟨p1, p2, p3⟩ := PL_hasException q v (xs ((nI j) + (1 : Int32)).toNatClampNeg) (xs ((nI j) + (2 : Int32)).toNatClampNeg) ow C
  have p2 : f_X10_thrown (f_X10_hasException d (xs ((nI j) + (1 : Int32)).toNatClampNeg) (xs ((nI j) + (2 : Int32)).toNatClampNeg)).2 = (f_L_hasException q v (xs ((nI j) + (1 : Int32)).toNatClampNeg) (xs ((nI j) + (2 : Int32)).toNatClampNeg) ow).1 := p2
  have e : f_K11 q v o hi hs pg tb nb d ow od xs j = (q, v, o, hi, hs, pg, tb, nb, (f_X10_hasException d (xs ((nI j) + (1 : Int32)).toNatClampNeg) (xs ((nI j) + (2 : Int32)).toNatClampNeg)).2, (f_L_hasException q v (xs ((nI j) + (1 : Int32)).toNatClampNeg) (xs ((nI j) + (2 : Int32)).toNatClampNeg) ow).2, od) := by
    unfold f_K11
    exact tvb p2 p3 _ _ _ _
  refine ⟨by unfold ok_K11; exact ⟨p1, O, tib p2 p3⟩, ?_⟩
  rw [e]
  show RW (B + 10000) q v o hi hs tb nb ((f_X10_hasException d (xs ((nI j) + (1 : Int32)).toNatClampNeg) (xs ((nI j) + (2 : Int32)).toNatClampNeg)).2)
  exact Wn.mono (by omega)
set_option maxHeartbeats 4000000 in
set_option maxRecDepth 100000 in
theorem P_K12 {B : Nat} {q : McV} {v o : StV} {hi : HiV} {hs : Nat → StV} {tb nb : SbV} {d : MoV} (h : RW B q v o hi hs tb nb d) (hB : B < 2 ^ 25) (pg : PrV) (ow : Nat → Int64) (od : Nat → UInt64) (xs : Nat → Int32) (j : Nat) : ok_K12 q v o hi hs pg tb nb d ow od xs j ∧ LR (B + 10000) (f_K12 q v o hi hs pg tb nb d ow od xs j) := by
  obtain ⟨O, C, Wn⟩ := R_exceptionDoor h (xs ((nI j) + (1 : Int32)).toNatClampNeg)
  obtain ⟨p1, p2, p3⟩ := PL_exceptionDoor q v (xs ((nI j) + (1 : Int32)).toNatClampNeg) ow C
  have p2 : f_X10_thrown (f_X10_exceptionDoor d (xs ((nI j) + (1 : Int32)).toNatClampNeg)).2 = (f_L_exceptionDoor q v (xs ((nI j) + (1 : Int32)).toNatClampNeg) ow).1 := p2
  have e : f_K12 q v o hi hs pg tb nb d ow od xs j = (q, v, o, hi, hs, pg, tb, nb, (f_X10_exceptionDoor d (xs ((nI j) + (1 : Int32)).toNatClampNeg)).2, (f_L_exceptionDoor q v (xs ((nI j) + (1 : Int32)).toNatClampNeg) ow).2, od) := by
    unfold f_K12
    exact tv p2 p3 _ _ _
  refine ⟨by unfold ok_K12; exact ⟨p1, O, ti p2 p3⟩, ?_⟩
  rw [e]
  show RW (B + 10000) q v o hi hs tb nb ((f_X10_exceptionDoor d (xs ((nI j) + (1 : Int32)).toNatClampNeg)).2)
  exact Wn.mono (by omega)
set_option maxHeartbeats 4000000 in
set_option maxRecDepth 100000 in
theorem P_K13 {B : Nat} {q : McV} {v o : StV} {hi : HiV} {hs : Nat → StV} {tb nb : SbV} {d : MoV} (h : RW B q v o hi hs tb nb d) (hB : B < 2 ^ 25) (pg : PrV) (ow : Nat → Int64) (od : Nat → UInt64) (xs : Nat → Int32) (j : Nat) : ok_K13 q v o hi hs pg tb nb d ow od xs j ∧ LR (B + 10000) (f_K13 q v o hi hs pg tb nb d ow od xs j) := by
  obtain ⟨O, C, Wn⟩ := R_exceptionDay h (xs ((nI j) + (1 : Int32)).toNatClampNeg)
  obtain ⟨p1, p2, p3⟩ := PL_exceptionDay q v (xs ((nI j) + (1 : Int32)).toNatClampNeg) ow C
  have p2 : f_X10_thrown (f_X10_exceptionDay d (xs ((nI j) + (1 : Int32)).toNatClampNeg)).2 = (f_L_exceptionDay q v (xs ((nI j) + (1 : Int32)).toNatClampNeg) ow).1 := p2
  have e : f_K13 q v o hi hs pg tb nb d ow od xs j = (q, v, o, hi, hs, pg, tb, nb, (f_X10_exceptionDay d (xs ((nI j) + (1 : Int32)).toNatClampNeg)).2, (f_L_exceptionDay q v (xs ((nI j) + (1 : Int32)).toNatClampNeg) ow).2, od) := by
    unfold f_K13
    exact tv p2 p3 _ _ _
  refine ⟨by unfold ok_K13; exact ⟨p1, O, ti p2 p3⟩, ?_⟩
  rw [e]
  show RW (B + 10000) q v o hi hs tb nb ((f_X10_exceptionDay d (xs ((nI j) + (1 : Int32)).toNatClampNeg)).2)
  exact Wn.mono (by omega)
set_option maxHeartbeats 4000000 in
set_option maxRecDepth 100000 in
theorem P_K14 {B : Nat} {q : McV} {v o : StV} {hi : HiV} {hs : Nat → StV} {tb nb : SbV} {d : MoV} (h : RW B q v o hi hs tb nb d) (hB : B < 2 ^ 25) (pg : PrV) (ow : Nat → Int64) (od : Nat → UInt64) (xs : Nat → Int32) (j : Nat) : ok_K14 q v o hi hs pg tb nb d ow od xs j ∧ LR (B + 10000) (f_K14 q v o hi hs pg tb nb d ow od xs j) := by
  obtain ⟨O, C, Wn⟩ := R_addPerson h
  obtain ⟨p1, p2, p3, p4, p5, p6⟩ := PL_addPerson q v hi hs ow h.nx C
  have p2 : f_X10_thrown (f_X10_addPerson d).2 = (f_L_addPerson q v hi hs ow).1 := p2
  have e : f_K14 q v o hi hs pg tb nb d ow od xs j = (q, (f_L_addPerson q v hi hs ow).2.1, o, (f_L_addPerson q v hi hs ow).2.2.1, (f_L_addPerson q v hi hs ow).2.2.2.1, pg, tb, nb, (f_X10_addPerson d).2, (f_L_addPerson q v hi hs ow).2.2.2.2, od) := by
    unfold f_K14
    exact tv p2 p3 _ _ _
  refine ⟨by unfold ok_K14; exact ⟨p1, O, ti p2 p3⟩, ?_⟩
  rw [e]
  show RW (B + 10000) q ((f_L_addPerson q v hi hs ow).2.1) o ((f_L_addPerson q v hi hs ow).2.2.1) ((f_L_addPerson q v hi hs ow).2.2.2.1) tb nb ((f_X10_addPerson d).2)
  rw [p4, p5, p6]
  exact Wn.mono (by omega)
set_option maxHeartbeats 4000000 in
set_option maxRecDepth 100000 in
theorem P_K15 {B : Nat} {q : McV} {v o : StV} {hi : HiV} {hs : Nat → StV} {tb nb : SbV} {d : MoV} (h : RW B q v o hi hs tb nb d) (hB : B < 2 ^ 25) (pg : PrV) (ow : Nat → Int64) (od : Nat → UInt64) (xs : Nat → Int32) (j : Nat) : ok_K15 q v o hi hs pg tb nb d ow od xs j ∧ LR (B + 10000) (f_K15 q v o hi hs pg tb nb d ow od xs j) := by
  obtain ⟨O, C, Wn⟩ := R_giveKey h (by omega) (xs ((nI j) + (1 : Int32)).toNatClampNeg) (xs ((nI j) + (2 : Int32)).toNatClampNeg)
  obtain ⟨p1, p2, p3, p4, p5, p6⟩ := PL_giveKey q v hi hs (xs ((nI j) + (1 : Int32)).toNatClampNeg) (xs ((nI j) + (2 : Int32)).toNatClampNeg) ow h.nx C
  have p2 : f_X10_thrown (f_X10_giveKey d (xs ((nI j) + (1 : Int32)).toNatClampNeg) (xs ((nI j) + (2 : Int32)).toNatClampNeg)).2 = (f_L_giveKey q v hi hs (xs ((nI j) + (1 : Int32)).toNatClampNeg) (xs ((nI j) + (2 : Int32)).toNatClampNeg) ow).1 := p2
  have e : f_K15 q v o hi hs pg tb nb d ow od xs j = (q, (f_L_giveKey q v hi hs (xs ((nI j) + (1 : Int32)).toNatClampNeg) (xs ((nI j) + (2 : Int32)).toNatClampNeg) ow).2.1, o, (f_L_giveKey q v hi hs (xs ((nI j) + (1 : Int32)).toNatClampNeg) (xs ((nI j) + (2 : Int32)).toNatClampNeg) ow).2.2.1, (f_L_giveKey q v hi hs (xs ((nI j) + (1 : Int32)).toNatClampNeg) (xs ((nI j) + (2 : Int32)).toNatClampNeg) ow).2.2.2.1, pg, tb, nb, (f_X10_giveKey d (xs ((nI j) + (1 : Int32)).toNatClampNeg) (xs ((nI j) + (2 : Int32)).toNatClampNeg)).2, (f_L_giveKey q v hi hs (xs ((nI j) + (1 : Int32)).toNatClampNeg) (xs ((nI j) + (2 : Int32)).toNatClampNeg) ow).2.2.2.2, od) := by
    unfold f_K15
    exact tv p2 p3 _ _ _
  refine ⟨by unfold ok_K15; exact ⟨p1, O, ti p2 p3⟩, ?_⟩
  rw [e]
  show RW (B + 10000) q ((f_L_giveKey q v hi hs (xs ((nI j) + (1 : Int32)).toNatClampNeg) (xs ((nI j) + (2 : Int32)).toNatClampNeg) ow).2.1) o ((f_L_giveKey q v hi hs (xs ((nI j) + (1 : Int32)).toNatClampNeg) (xs ((nI j) + (2 : Int32)).toNatClampNeg) ow).2.2.1) ((f_L_giveKey q v hi hs (xs ((nI j) + (1 : Int32)).toNatClampNeg) (xs ((nI j) + (2 : Int32)).toNatClampNeg) ow).2.2.2.1) tb nb ((f_X10_giveKey d (xs ((nI j) + (1 : Int32)).toNatClampNeg) (xs ((nI j) + (2 : Int32)).toNatClampNeg)).2)
  rw [p4, p5, p6]
  exact Wn.mono (by omega)
set_option maxHeartbeats 4000000 in
set_option maxRecDepth 100000 in
theorem P_K16 {B : Nat} {q : McV} {v o : StV} {hi : HiV} {hs : Nat → StV} {tb nb : SbV} {d : MoV} (h : RW B q v o hi hs tb nb d) (hB : B < 2 ^ 25) (pg : PrV) (ow : Nat → Int64) (od : Nat → UInt64) (xs : Nat → Int32) (j : Nat) : ok_K16 q v o hi hs pg tb nb d ow od xs j ∧ LR (B + 10000) (f_K16 q v o hi hs pg tb nb d ow od xs j) := by
  obtain ⟨O, C, Wn⟩ := R_takeKey h (by omega) (xs ((nI j) + (1 : Int32)).toNatClampNeg) (xs ((nI j) + (2 : Int32)).toNatClampNeg)
  obtain ⟨p1, p2, p3, p4, p5, p6⟩ := PL_takeKey q v hi hs (xs ((nI j) + (1 : Int32)).toNatClampNeg) (xs ((nI j) + (2 : Int32)).toNatClampNeg) ow h.nx C
  have p2 : f_X10_thrown (f_X10_takeKey d (xs ((nI j) + (1 : Int32)).toNatClampNeg) (xs ((nI j) + (2 : Int32)).toNatClampNeg)).2 = (f_L_takeKey q v hi hs (xs ((nI j) + (1 : Int32)).toNatClampNeg) (xs ((nI j) + (2 : Int32)).toNatClampNeg) ow).1 := p2
  have e : f_K16 q v o hi hs pg tb nb d ow od xs j = (q, (f_L_takeKey q v hi hs (xs ((nI j) + (1 : Int32)).toNatClampNeg) (xs ((nI j) + (2 : Int32)).toNatClampNeg) ow).2.1, o, (f_L_takeKey q v hi hs (xs ((nI j) + (1 : Int32)).toNatClampNeg) (xs ((nI j) + (2 : Int32)).toNatClampNeg) ow).2.2.1, (f_L_takeKey q v hi hs (xs ((nI j) + (1 : Int32)).toNatClampNeg) (xs ((nI j) + (2 : Int32)).toNatClampNeg) ow).2.2.2.1, pg, tb, nb, (f_X10_takeKey d (xs ((nI j) + (1 : Int32)).toNatClampNeg) (xs ((nI j) + (2 : Int32)).toNatClampNeg)).2, (f_L_takeKey q v hi hs (xs ((nI j) + (1 : Int32)).toNatClampNeg) (xs ((nI j) + (2 : Int32)).toNatClampNeg) ow).2.2.2.2, od) := by
    unfold f_K16
    exact tv p2 p3 _ _ _
  refine ⟨by unfold ok_K16; exact ⟨p1, O, ti p2 p3⟩, ?_⟩
  rw [e]
  show RW (B + 10000) q ((f_L_takeKey q v hi hs (xs ((nI j) + (1 : Int32)).toNatClampNeg) (xs ((nI j) + (2 : Int32)).toNatClampNeg) ow).2.1) o ((f_L_takeKey q v hi hs (xs ((nI j) + (1 : Int32)).toNatClampNeg) (xs ((nI j) + (2 : Int32)).toNatClampNeg) ow).2.2.1) ((f_L_takeKey q v hi hs (xs ((nI j) + (1 : Int32)).toNatClampNeg) (xs ((nI j) + (2 : Int32)).toNatClampNeg) ow).2.2.2.1) tb nb ((f_X10_takeKey d (xs ((nI j) + (1 : Int32)).toNatClampNeg) (xs ((nI j) + (2 : Int32)).toNatClampNeg)).2)
  rw [p4, p5, p6]
  exact Wn.mono (by omega)
