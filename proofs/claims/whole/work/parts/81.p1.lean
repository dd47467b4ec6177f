set_option maxHeartbeats 4000000 in
set_option maxRecDepth 100000 in
theorem P_K17 {B : Nat} {q : McV} {v o : StV} {hi : HiV} {hs : Nat → StV} {tb nb : SbV} {d : MoV} (h : RW B q v o hi hs tb nb d) (hB : B < 2 ^ 25) (pg : PrV) (ow : Nat → Int64) (od : Nat → UInt64) (xs : Nat → Int32) (j : Nat) : ok_K17 q v o hi hs pg tb nb d ow od xs j ∧ LR (B + 10000) (f_K17 q v o hi hs pg tb nb d ow od xs j) := by
  obtain ⟨O, C, Wn⟩ := R_tryDoor h (by omega) (xs ((nI j) + (1 : Int32)).toNatClampNeg) (xs ((nI j) + (2 : Int32)).toNatClampNeg)
  obtain ⟨p1, p2, p3, p4, p5, p6⟩ := PL_tryDoor q v hi hs (xs ((nI j) + (1 : Int32)).toNatClampNeg) (xs ((nI j) + (2 : Int32)).toNatClampNeg) ow h.nx C
  have p2 : f_X10_thrown (f_X10_tryDoor d (xs ((nI j) + (1 : Int32)).toNatClampNeg) (xs ((nI j) + (2 : Int32)).toNatClampNeg)).2 = (f_L_tryDoor q v hi hs (xs ((nI j) + (1 : Int32)).toNatClampNeg) (xs ((nI j) + (2 : Int32)).toNatClampNeg) ow).1 := p2
  have e : f_K17 q v o hi hs pg tb nb d ow od xs j = (q, (f_L_tryDoor q v hi hs (xs ((nI j) + (1 : Int32)).toNatClampNeg) (xs ((nI j) + (2 : Int32)).toNatClampNeg) ow).2.1, o, (f_L_tryDoor q v hi hs (xs ((nI j) + (1 : Int32)).toNatClampNeg) (xs ((nI j) + (2 : Int32)).toNatClampNeg) ow).2.2.1, (f_L_tryDoor q v hi hs (xs ((nI j) + (1 : Int32)).toNatClampNeg) (xs ((nI j) + (2 : Int32)).toNatClampNeg) ow).2.2.2.1, pg, tb, nb, (f_X10_tryDoor d (xs ((nI j) + (1 : Int32)).toNatClampNeg) (xs ((nI j) + (2 : Int32)).toNatClampNeg)).2, (f_L_tryDoor q v hi hs (xs ((nI j) + (1 : Int32)).toNatClampNeg) (xs ((nI j) + (2 : Int32)).toNatClampNeg) ow).2.2.2.2, od) := by
    unfold f_K17
    exact tv p2 p3 _ _ _
  refine ⟨by unfold ok_K17; exact ⟨p1, O, ti p2 p3⟩, ?_⟩
  rw [e]
  show RW (B + 10000) q ((f_L_tryDoor q v hi hs (xs ((nI j) + (1 : Int32)).toNatClampNeg) (xs ((nI j) + (2 : Int32)).toNatClampNeg) ow).2.1) o ((f_L_tryDoor q v hi hs (xs ((nI j) + (1 : Int32)).toNatClampNeg) (xs ((nI j) + (2 : Int32)).toNatClampNeg) ow).2.2.1) ((f_L_tryDoor q v hi hs (xs ((nI j) + (1 : Int32)).toNatClampNeg) (xs ((nI j) + (2 : Int32)).toNatClampNeg) ow).2.2.2.1) tb nb ((f_X10_tryDoor d (xs ((nI j) + (1 : Int32)).toNatClampNeg) (xs ((nI j) + (2 : Int32)).toNatClampNeg)).2)
  rw [p4, p5, p6]
  exact Wn.mono (by omega)
set_option maxHeartbeats 4000000 in
set_option maxRecDepth 100000 in
theorem P_K18 {B : Nat} {q : McV} {v o : StV} {hi : HiV} {hs : Nat → StV} {tb nb : SbV} {d : MoV} (h : RW B q v o hi hs tb nb d) (hB : B < 2 ^ 25) (pg : PrV) (ow : Nat → Int64) (od : Nat → UInt64) (xs : Nat → Int32) (j : Nat) : ok_K18 q v o hi hs pg tb nb d ow od xs j ∧ LR (B + 10000) (f_K18 q v o hi hs pg tb nb d ow od xs j) := by
  obtain ⟨O, C, Wn⟩ := R_wouldEnter h (xs ((nI j) + (1 : Int32)).toNatClampNeg) (xs ((nI j) + (2 : Int32)).toNatClampNeg) (by omega)
  obtain ⟨p1, p2, p3⟩ := PL_wouldEnter q v (xs ((nI j) + (1 : Int32)).toNatClampNeg) (xs ((nI j) + (2 : Int32)).toNatClampNeg) ow C
  have p2 : f_X10_thrown (f_X10_wouldEnter d (xs ((nI j) + (1 : Int32)).toNatClampNeg) (xs ((nI j) + (2 : Int32)).toNatClampNeg)).2 = (f_L_wouldEnter q v (xs ((nI j) + (1 : Int32)).toNatClampNeg) (xs ((nI j) + (2 : Int32)).toNatClampNeg) ow).1 := p2
  have e : f_K18 q v o hi hs pg tb nb d ow od xs j = (q, v, o, hi, hs, pg, tb, nb, (f_X10_wouldEnter d (xs ((nI j) + (1 : Int32)).toNatClampNeg) (xs ((nI j) + (2 : Int32)).toNatClampNeg)).2, (f_L_wouldEnter q v (xs ((nI j) + (1 : Int32)).toNatClampNeg) (xs ((nI j) + (2 : Int32)).toNatClampNeg) ow).2, od) := by
    unfold f_K18
    exact tv p2 p3 _ _ _
  refine ⟨by unfold ok_K18; exact ⟨p1, O, ti p2 p3⟩, ?_⟩
  rw [e]
  show RW (B + 10000) q v o hi hs tb nb ((f_X10_wouldEnter d (xs ((nI j) + (1 : Int32)).toNatClampNeg) (xs ((nI j) + (2 : Int32)).toNatClampNeg)).2)
  exact Wn.mono (by omega)
set_option maxHeartbeats 4000000 in
set_option maxRecDepth 100000 in
theorem P_K19 {B : Nat} {q : McV} {v o : StV} {hi : HiV} {hs : Nat → StV} {tb nb : SbV} {d : MoV} (h : RW B q v o hi hs tb nb d) (hB : B < 2 ^ 25) (pg : PrV) (ow : Nat → Int64) (od : Nat → UInt64) (xs : Nat → Int32) (j : Nat) : ok_K19 q v o hi hs pg tb nb d ow od xs j ∧ LR (B + 10000) (f_K19 q v o hi hs pg tb nb d ow od xs j) := by
  obtain ⟨e1, -, Wn⟩ := R_personCount h
  have e : f_K19 q v o hi hs pg tb nb d ow od xs j = (q, v, o, hi, hs, pg, tb, nb, (f_X10_personCount d).2, ow, od) := by
    unfold f_K19
    exact if_pos e1
  refine ⟨by unfold ok_K19; exact (if_pos e1).mpr trivial, ?_⟩
  rw [e]
  exact Wn.mono (by omega)
set_option maxHeartbeats 4000000 in
set_option maxRecDepth 100000 in
theorem P_K20 {B : Nat} {q : McV} {v o : StV} {hi : HiV} {hs : Nat → StV} {tb nb : SbV} {d : MoV} (h : RW B q v o hi hs tb nb d) (hB : B < 2 ^ 25) (pg : PrV) (ow : Nat → Int64) (od : Nat → UInt64) (xs : Nat → Int32) (j : Nat) : ok_K20 q v o hi hs pg tb nb d ow od xs j ∧ LR (B + 10000) (f_K20 q v o hi hs pg tb nb d ow od xs j) := by
  obtain ⟨O, C, Wn⟩ := R_hasKey h (xs ((nI j) + (1 : Int32)).toNatClampNeg) (xs ((nI j) + (2 : Int32)).toNatClampNeg)
  obtain ⟨p1, p2, p3⟩ := PL_hasKey q v (xs ((nI j) + (1 : Int32)).toNatClampNeg) (xs ((nI j) + (2 : Int32)).toNatClampNeg) ow C
  have p2 : f_X10_thrown (f_X10_hasKey d (xs ((nI j) + (1 : Int32)).toNatClampNeg) (xs ((nI j) + (2 : Int32)).toNatClampNeg)).2 = (f_L_hasKey q v (xs ((nI j) + (1 : Int32)).toNatClampNeg) (xs ((nI j) + (2 : Int32)).toNatClampNeg) ow).1 := p2
  have e : f_K20 q v o hi hs pg tb nb d ow od xs j = (q, v, o, hi, hs, pg, tb, nb, (f_X10_hasKey d (xs ((nI j) + (1 : Int32)).toNatClampNeg) (xs ((nI j) + (2 : Int32)).toNatClampNeg)).2, (f_L_hasKey q v (xs ((nI j) + (1 : Int32)).toNatClampNeg) (xs ((nI j) + (2 : Int32)).toNatClampNeg) ow).2, od) := by
    unfold f_K20
    exact tvb p2 p3 _ _ _ _
  refine ⟨by unfold ok_K20; exact ⟨p1, O, tib p2 p3⟩, ?_⟩
  rw [e]
  show RW (B + 10000) q v o hi hs tb nb ((f_X10_hasKey d (xs ((nI j) + (1 : Int32)).toNatClampNeg) (xs ((nI j) + (2 : Int32)).toNatClampNeg)).2)
  exact Wn.mono (by omega)
set_option maxHeartbeats 4000000 in
set_option maxRecDepth 100000 in
theorem P_K21 {B : Nat} {q : McV} {v o : StV} {hi : HiV} {hs : Nat → StV} {tb nb : SbV} {d : MoV} (h : RW B q v o hi hs tb nb d) (hB : B < 2 ^ 25) (pg : PrV) (ow : Nat → Int64) (od : Nat → UInt64) (xs : Nat → Int32) (j : Nat) : ok_K21 q v o hi hs pg tb nb d ow od xs j ∧ LR (B + 10000) (f_K21 q v o hi hs pg tb nb d ow od xs j) := by
  obtain ⟨O, C, Wn⟩ := R_keyAt h (xs ((nI j) + (1 : Int32)).toNatClampNeg) (xs ((nI j) + (2 : Int32)).toNatClampNeg)
  obtain ⟨p1, p2, p3⟩ := PL_keyAt q v (xs ((nI j) + (1 : Int32)).toNatClampNeg) (xs ((nI j) + (2 : Int32)).toNatClampNeg) ow C
  have p2 : f_X10_thrown (f_X10_keyAt d (xs ((nI j) + (1 : Int32)).toNatClampNeg) (xs ((nI j) + (2 : Int32)).toNatClampNeg)).2 = (f_L_keyAt q v (xs ((nI j) + (1 : Int32)).toNatClampNeg) (xs ((nI j) + (2 : Int32)).toNatClampNeg) ow).1 := p2
  have e : f_K21 q v o hi hs pg tb nb d ow od xs j = (q, v, o, hi, hs, pg, tb, nb, (f_X10_keyAt d (xs ((nI j) + (1 : Int32)).toNatClampNeg) (xs ((nI j) + (2 : Int32)).toNatClampNeg)).2, (f_L_keyAt q v (xs ((nI j) + (1 : Int32)).toNatClampNeg) (xs ((nI j) + (2 : Int32)).toNatClampNeg) ow).2, od) := by
    unfold f_K21
    exact tv p2 p3 _ _ _
  refine ⟨by unfold ok_K21; exact ⟨p1, O, ti p2 p3⟩, ?_⟩
  rw [e]
  show RW (B + 10000) q v o hi hs tb nb ((f_X10_keyAt d (xs ((nI j) + (1 : Int32)).toNatClampNeg) (xs ((nI j) + (2 : Int32)).toNatClampNeg)).2)
  exact Wn.mono (by omega)
set_option maxHeartbeats 4000000 in
set_option maxRecDepth 100000 in
theorem P_K22 {B : Nat} {q : McV} {v o : StV} {hi : HiV} {hs : Nat → StV} {tb nb : SbV} {d : MoV} (h : RW B q v o hi hs tb nb d) (hB : B < 2 ^ 25) (pg : PrV) (ow : Nat → Int64) (od : Nat → UInt64) (xs : Nat → Int32) (j : Nat) : ok_K22 q v o hi hs pg tb nb d ow od xs j ∧ LR (B + 10000) (f_K22 q v o hi hs pg tb nb d ow od xs j) := by
  obtain ⟨O, C, Wn⟩ := R_doorsOfRing h (xs ((nI j) + (1 : Int32)).toNatClampNeg)
  obtain ⟨p1, p2, p3⟩ := PL_doorsOfRing q v (xs ((nI j) + (1 : Int32)).toNatClampNeg) ow C
  have p2 : f_X10_thrown (f_X10_doorsOfRing d (xs ((nI j) + (1 : Int32)).toNatClampNeg)).2 = (f_L_doorsOfRing q v (xs ((nI j) + (1 : Int32)).toNatClampNeg) ow).1 := p2
  have e : f_K22 q v o hi hs pg tb nb d ow od xs j = (q, v, o, hi, hs, pg, tb, nb, (f_X10_doorsOfRing d (xs ((nI j) + (1 : Int32)).toNatClampNeg)).2, (f_L_doorsOfRing q v (xs ((nI j) + (1 : Int32)).toNatClampNeg) ow).2, od) := by
    unfold f_K22
    exact tv p2 p3 _ _ _
  refine ⟨by unfold ok_K22; exact ⟨p1, O, ti p2 p3⟩, ?_⟩
  rw [e]
  show RW (B + 10000) q v o hi hs tb nb ((f_X10_doorsOfRing d (xs ((nI j) + (1 : Int32)).toNatClampNeg)).2)
  exact Wn.mono (by omega)
set_option maxHeartbeats 4000000 in
set_option maxRecDepth 100000 in
theorem P_K23 {B : Nat} {q : McV} {v o : StV} {hi : HiV} {hs : Nat → StV} {tb nb : SbV} {d : MoV} (h : RW B q v o hi hs tb nb d) (hB : B < 2 ^ 25) (pg : PrV) (ow : Nat → Int64) (od : Nat → UInt64) (xs : Nat → Int32) (j : Nat) : ok_K23 q v o hi hs pg tb nb d ow od xs j ∧ LR (B + 10000) (f_K23 q v o hi hs pg tb nb d ow od xs j) := by
  obtain ⟨O, C, Wn⟩ := R_personByEntries h (xs ((nI j) + (1 : Int32)).toNatClampNeg) (by omega)
  obtain ⟨p1, p2, p3⟩ := PL_personByEntries q v (xs ((nI j) + (1 : Int32)).toNatClampNeg) ow C
  have p2 : f_X10_thrown (f_X10_personByEntries d (xs ((nI j) + (1 : Int32)).toNatClampNeg)).2 = (f_L_personByEntries q v (xs ((nI j) + (1 : Int32)).toNatClampNeg) ow).1 := p2
  have e : f_K23 q v o hi hs pg tb nb d ow od xs j = (q, v, o, hi, hs, pg, tb, nb, (f_X10_personByEntries d (xs ((nI j) + (1 : Int32)).toNatClampNeg)).2, (f_L_personByEntries q v (xs ((nI j) + (1 : Int32)).toNatClampNeg) ow).2, od) := by
    unfold f_K23
    exact tv p2 p3 _ _ _
  refine ⟨by unfold ok_K23; exact ⟨p1, O, ti p2 p3⟩, ?_⟩
  rw [e]
  show RW (B + 10000) q v o hi hs tb nb ((f_X10_personByEntries d (xs ((nI j) + (1 : Int32)).toNatClampNeg)).2)
  exact Wn.mono (by omega)
set_option maxHeartbeats 4000000 in
set_option maxRecDepth 100000 in
theorem P_K24 {B : Nat} {q : McV} {v o : StV} {hi : HiV} {hs : Nat → StV} {tb nb : SbV} {d : MoV} (h : RW B q v o hi hs tb nb d) (hB : B < 2 ^ 25) (pg : PrV) (ow : Nat → Int64) (od : Nat → UInt64) (xs : Nat → Int32) (j : Nat) : ok_K24 q v o hi hs pg tb nb d ow od xs j ∧ LR (B + 10000) (f_K24 q v o hi hs pg tb nb d ow od xs j) := by
  obtain ⟨O, C, Wn⟩ := R_entriesOf h (xs ((nI j) + (1 : Int32)).toNatClampNeg)
  obtain ⟨p1, p2, p3⟩ := PL_entriesOf q v (xs ((nI j) + (1 : Int32)).toNatClampNeg) ow C
  have p2 : f_X10_thrown (f_X10_entriesOf d (xs ((nI j) + (1 : Int32)).toNatClampNeg)).2 = (f_L_entriesOf q v (xs ((nI j) + (1 : Int32)).toNatClampNeg) ow).1 := p2
  have e : f_K24 q v o hi hs pg tb nb d ow od xs j = (q, v, o, hi, hs, pg, tb, nb, (f_X10_entriesOf d (xs ((nI j) + (1 : Int32)).toNatClampNeg)).2, (f_L_entriesOf q v (xs ((nI j) + (1 : Int32)).toNatClampNeg) ow).2, od) := by
    unfold f_K24
    exact tv p2 p3 _ _ _
  refine ⟨by unfold ok_K24; exact ⟨p1, O, ti p2 p3⟩, ?_⟩
  rw [e]
  show RW (B + 10000) q v o hi hs tb nb ((f_X10_entriesOf d (xs ((nI j) + (1 : Int32)).toNatClampNeg)).2)
  exact Wn.mono (by omega)
set_option maxHeartbeats 4000000 in
set_option maxRecDepth 100000 in
theorem P_K25 {B : Nat} {q : McV} {v o : StV} {hi : HiV} {hs : Nat → StV} {tb nb : SbV} {d : MoV} (h : RW B q v o hi hs tb nb d) (hB : B < 2 ^ 25) (pg : PrV) (ow : Nat → Int64) (od : Nat → UInt64) (xs : Nat → Int32) (j : Nat) : ok_K25 q v o hi hs pg tb nb d ow od xs j ∧ LR (B + 10000) (f_K25 q v o hi hs pg tb nb d ow od xs j) := by
  obtain ⟨O, C, Wn⟩ := R_advance h (by omega) (xs ((nI j) + (1 : Int32)).toNatClampNeg)
  obtain ⟨p1, p2, p3, p4, p5, p6⟩ := PL_advance q v hi hs (xs ((nI j) + (1 : Int32)).toNatClampNeg) ow h.nx C
  have p2 : f_X10_thrown (f_X10_advance d (xs ((nI j) + (1 : Int32)).toNatClampNeg)).2 = (f_L_advance q v hi hs (xs ((nI j) + (1 : Int32)).toNatClampNeg) ow).1 := p2
  have e : f_K25 q v o hi hs pg tb nb d ow od xs j = (q, (f_L_advance q v hi hs (xs ((nI j) + (1 : Int32)).toNatClampNeg) ow).2.1, o, (f_L_advance q v hi hs (xs ((nI j) + (1 : Int32)).toNatClampNeg) ow).2.2.1, (f_L_advance q v hi hs (xs ((nI j) + (1 : Int32)).toNatClampNeg) ow).2.2.2.1, pg, tb, nb, (f_X10_advance d (xs ((nI j) + (1 : Int32)).toNatClampNeg)).2, (f_L_advance q v hi hs (xs ((nI j) + (1 : Int32)).toNatClampNeg) ow).2.2.2.2, od) := by
    unfold f_K25
    exact tv p2 p3 _ _ _
  refine ⟨by unfold ok_K25; exact ⟨p1, O, ti p2 p3⟩, ?_⟩
  rw [e]
  show RW (B + 10000) q ((f_L_advance q v hi hs (xs ((nI j) + (1 : Int32)).toNatClampNeg) ow).2.1) o ((f_L_advance q v hi hs (xs ((nI j) + (1 : Int32)).toNatClampNeg) ow).2.2.1) ((f_L_advance q v hi hs (xs ((nI j) + (1 : Int32)).toNatClampNeg) ow).2.2.2.1) tb nb ((f_X10_advance d (xs ((nI j) + (1 : Int32)).toNatClampNeg)).2)
  rw [p4, p5, p6]
  exact Wn.mono (by omega)
set_option maxHeartbeats 4000000 in
set_option maxRecDepth 100000 in
theorem P_K26 {B : Nat} {q : McV} {v o : StV} {hi : HiV} {hs : Nat → StV} {tb nb : SbV} {d : MoV} (h : RW B q v o hi hs tb nb d) (hB : B < 2 ^ 25) (pg : PrV) (ow : Nat → Int64) (od : Nat → UInt64) (xs : Nat → Int32) (j : Nat) : ok_K26 q v o hi hs pg tb nb d ow od xs j ∧ LR (B + 10000) (f_K26 q v o hi hs pg tb nb d ow od xs j) := by
  obtain ⟨e1, -, Wn⟩ := R_day h (by omega)
  have e : f_K26 q v o hi hs pg tb nb d ow od xs j = (q, v, o, hi, hs, pg, tb, nb, (f_X10_day d).2, ow, od) := by
    unfold f_K26
    exact if_pos e1
  refine ⟨by unfold ok_K26; exact (if_pos e1).mpr trivial, ?_⟩
  rw [e]
  exact Wn.mono (by omega)
set_option maxHeartbeats 4000000 in
set_option maxRecDepth 100000 in
theorem P_K27 {B : Nat} {q : McV} {v o : StV} {hi : HiV} {hs : Nat → StV} {tb nb : SbV} {d : MoV} (h : RW B q v o hi hs tb nb d) (hB : B < 2 ^ 25) (pg : PrV) (ow : Nat → Int64) (od : Nat → UInt64) (xs : Nat → Int32) (j : Nat) : ok_K27 q v o hi hs pg tb nb d ow od xs j ∧ LR (B + 10000) (f_K27 q v o hi hs pg tb nb d ow od xs j) := by
  obtain ⟨e1, -, Wn⟩ := R_hour h (by omega)
  have e : f_K27 q v o hi hs pg tb nb d ow od xs j = (q, v, o, hi, hs, pg, tb, nb, (f_X10_hour d).2, ow, od) := by
    unfold f_K27
    exact if_pos e1
  refine ⟨by unfold ok_K27; exact (if_pos e1).mpr trivial, ?_⟩
  rw [e]
  exact Wn.mono (by omega)
set_option maxHeartbeats 4000000 in
set_option maxRecDepth 100000 in
theorem P_K28 {B : Nat} {q : McV} {v o : StV} {hi : HiV} {hs : Nat → StV} {tb nb : SbV} {d : MoV} (h : RW B q v o hi hs tb nb d) (hB : B < 2 ^ 25) (pg : PrV) (ow : Nat → Int64) (od : Nat → UInt64) (xs : Nat → Int32) (j : Nat) : ok_K28 q v o hi hs pg tb nb d ow od xs j ∧ LR (B + 10000) (f_K28 q v o hi hs pg tb nb d ow od xs j) := by
  obtain ⟨O, C, Wn⟩ := R_phaseOn h (xs ((nI j) + (1 : Int32)).toNatClampNeg)
  obtain ⟨p1, p2, p3⟩ := PL_phaseOn q v (xs ((nI j) + (1 : Int32)).toNatClampNeg) ow C
  have p2 : f_X10_thrown (f_X10_phaseOn d (xs ((nI j) + (1 : Int32)).toNatClampNeg)).2 = (f_L_phaseOn q v (xs ((nI j) + (1 : Int32)).toNatClampNeg) ow).1 := p2
  have e : f_K28 q v o hi hs pg tb nb d ow od xs j = (q, v, o, hi, hs, pg, tb, nb, (f_X10_phaseOn d (xs ((nI j) + (1 : Int32)).toNatClampNeg)).2, (f_L_phaseOn q v (xs ((nI j) + (1 : Int32)).toNatClampNeg) ow).2, od) := by
    unfold f_K28
    exact tv p2 p3 _ _ _
  refine ⟨by unfold ok_K28; exact ⟨p1, O, ti p2 p3⟩, ?_⟩
  rw [e]
  show RW (B + 10000) q v o hi hs tb nb ((f_X10_phaseOn d (xs ((nI j) + (1 : Int32)).toNatClampNeg)).2)
  exact Wn.mono (by omega)
set_option maxHeartbeats 4000000 in
set_option maxRecDepth 100000 in
theorem P_K29 {B : Nat} {q : McV} {v o : StV} {hi : HiV} {hs : Nat → StV} {tb nb : SbV} {d : MoV} (h : RW B q v o hi hs tb nb d) (hB : B < 2 ^ 25) (pg : PrV) (ow : Nat → Int64) (od : Nat → UInt64) (xs : Nat → Int32) (j : Nat) : ok_K29 q v o hi hs pg tb nb d ow od xs j ∧ LR (B + 10000) (f_K29 q v o hi hs pg tb nb d ow od xs j) := by
  obtain ⟨O, C, Wn⟩ := R_daysUntilPhase h (xs ((nI j) + (1 : Int32)).toNatClampNeg) (by omega)
  obtain ⟨p1, p2, p3⟩ := PL_daysUntilPhase q v (xs ((nI j) + (1 : Int32)).toNatClampNeg) ow C
  have p2 : f_X10_thrown (f_X10_daysUntilPhase d (xs ((nI j) + (1 : Int32)).toNatClampNeg)).2 = (f_L_daysUntilPhase q v (xs ((nI j) + (1 : Int32)).toNatClampNeg) ow).1 := p2
  have e : f_K29 q v o hi hs pg tb nb d ow od xs j = (q, v, o, hi, hs, pg, tb, nb, (f_X10_daysUntilPhase d (xs ((nI j) + (1 : Int32)).toNatClampNeg)).2, (f_L_daysUntilPhase q v (xs ((nI j) + (1 : Int32)).toNatClampNeg) ow).2, od) := by
    unfold f_K29
    exact tv p2 p3 _ _ _
  refine ⟨by unfold ok_K29; exact ⟨p1, O, ti p2 p3⟩, ?_⟩
  rw [e]
  show RW (B + 10000) q v o hi hs tb nb ((f_X10_daysUntilPhase d (xs ((nI j) + (1 : Int32)).toNatClampNeg)).2)
  exact Wn.mono (by omega)
set_option maxHeartbeats 4000000 in
set_option maxRecDepth 100000 in
theorem P_K30 {B : Nat} {q : McV} {v o : StV} {hi : HiV} {hs : Nat → StV} {tb nb : SbV} {d : MoV} (h : RW B q v o hi hs tb nb d) (hB : B < 2 ^ 25) (pg : PrV) (ow : Nat → Int64) (od : Nat → UInt64) (xs : Nat → Int32) (j : Nat) : ok_K30 q v o hi hs pg tb nb d ow od xs j ∧ LR (B + 10000) (f_K30 q v o hi hs pg tb nb d ow od xs j) := by
  obtain ⟨O, C, Wn⟩ := R_isUnlocked h (xs ((nI j) + (1 : Int32)).toNatClampNeg) (by omega)
  obtain ⟨p1, p2, p3⟩ := PL_isUnlocked q v (xs ((nI j) + (1 : Int32)).toNatClampNeg) ow C
  have p2 : f_X10_thrown (f_X10_isUnlocked d (xs ((nI j) + (1 : Int32)).toNatClampNeg)).2 = (f_L_isUnlocked q v (xs ((nI j) + (1 : Int32)).toNatClampNeg) ow).1 := p2
  have e : f_K30 q v o hi hs pg tb nb d ow od xs j = (q, v, o, hi, hs, pg, tb, nb, (f_X10_isUnlocked d (xs ((nI j) + (1 : Int32)).toNatClampNeg)).2, (f_L_isUnlocked q v (xs ((nI j) + (1 : Int32)).toNatClampNeg) ow).2, od) := by
    unfold f_K30
    exact tvb p2 p3 _ _ _ _
  refine ⟨by unfold ok_K30; exact ⟨p1, O, tib p2 p3⟩, ?_⟩
  rw [e]
  show RW (B + 10000) q v o hi hs tb nb ((f_X10_isUnlocked d (xs ((nI j) + (1 : Int32)).toNatClampNeg)).2)
  exact Wn.mono (by omega)
set_option maxHeartbeats 4000000 in
set_option maxRecDepth 100000 in
theorem P_K31 {B : Nat} {q : McV} {v o : StV} {hi : HiV} {hs : Nat → StV} {tb nb : SbV} {d : MoV} (h : RW B q v o hi hs tb nb d) (hB : B < 2 ^ 25) (pg : PrV) (ow : Nat → Int64) (od : Nat → UInt64) (xs : Nat → Int32) (j : Nat) : ok_K31 q v o hi hs pg tb nb d ow od xs j ∧ LR (B + 10000) (f_K31 q v o hi hs pg tb nb d ow od xs j) := by
  obtain ⟨O, C, Wn⟩ := R_hoursUntilUnlocked h (xs ((nI j) + (1 : Int32)).toNatClampNeg) (by omega)
  obtain ⟨p1, p2, p3⟩ := PL_hoursUntilUnlocked q v (xs ((nI j) + (1 : Int32)).toNatClampNeg) ow C
  have p2 : f_X10_thrown (f_X10_hoursUntilUnlocked d (xs ((nI j) + (1 : Int32)).toNatClampNeg)).2 = (f_L_hoursUntilUnlocked q v (xs ((nI j) + (1 : Int32)).toNatClampNeg) ow).1 := p2
  have e : f_K31 q v o hi hs pg tb nb d ow od xs j = (q, v, o, hi, hs, pg, tb, nb, (f_X10_hoursUntilUnlocked d (xs ((nI j) + (1 : Int32)).toNatClampNeg)).2, (f_L_hoursUntilUnlocked q v (xs ((nI j) + (1 : Int32)).toNatClampNeg) ow).2, od) := by
    unfold f_K31
    exact tv p2 p3 _ _ _
  refine ⟨by unfold ok_K31; exact ⟨p1, O, ti p2 p3⟩, ?_⟩
  rw [e]
  show RW (B + 10000) q v o hi hs tb nb ((f_X10_hoursUntilUnlocked d (xs ((nI j) + (1 : Int32)).toNatClampNeg)).2)
  exact Wn.mono (by omega)
set_option maxHeartbeats 4000000 in
set_option maxRecDepth 100000 in
theorem P_K32 {B : Nat} {q : McV} {v o : StV} {hi : HiV} {hs : Nat → StV} {tb nb : SbV} {d : MoV} (h : RW B q v o hi hs tb nb d) (hB : B < 2 ^ 25) (pg : PrV) (ow : Nat → Int64) (od : Nat → UInt64) (xs : Nat → Int32) (j : Nat) : ok_K32 q v o hi hs pg tb nb d ow od xs j ∧ LR (B + 10000) (f_K32 q v o hi hs pg tb nb d ow od xs j) := by
  obtain ⟨O, C, Wn⟩ := R_hoursUntilUnlockedByDays h (xs ((nI j) + (1 : Int32)).toNatClampNeg) (by omega)
  obtain ⟨p1, p2, p3⟩ := PL_hoursUntilUnlockedByDays q v (xs ((nI j) + (1 : Int32)).toNatClampNeg) ow C
  have p2 : f_X10_thrown (f_X10_hoursUntilUnlockedByDays d (xs ((nI j) + (1 : Int32)).toNatClampNeg)).2 = (f_L_hoursUntilUnlockedByDays q v (xs ((nI j) + (1 : Int32)).toNatClampNeg) ow).1 := p2
  have e : f_K32 q v o hi hs pg tb nb d ow od xs j = (q, v, o, hi, hs, pg, tb, nb, (f_X10_hoursUntilUnlockedByDays d (xs ((nI j) + (1 : Int32)).toNatClampNeg)).2, (f_L_hoursUntilUnlockedByDays q v (xs ((nI j) + (1 : Int32)).toNatClampNeg) ow).2, od) := by
    unfold f_K32
    exact tv p2 p3 _ _ _
  refine ⟨by unfold ok_K32; exact ⟨p1, O, ti p2 p3⟩, ?_⟩
  rw [e]
  show RW (B + 10000) q v o hi hs tb nb ((f_X10_hoursUntilUnlockedByDays d (xs ((nI j) + (1 : Int32)).toNatClampNeg)).2)
  exact Wn.mono (by omega)
set_option maxHeartbeats 4000000 in
set_option maxRecDepth 100000 in
theorem P_K33 {B : Nat} {q : McV} {v o : StV} {hi : HiV} {hs : Nat → StV} {tb nb : SbV} {d : MoV} (h : RW B q v o hi hs tb nb d) (hB : B < 2 ^ 25) (pg : PrV) (ow : Nat → Int64) (od : Nat → UInt64) (xs : Nat → Int32) (j : Nat) : ok_K33 q v o hi hs pg tb nb d ow od xs j ∧ LR (B + 10000) (f_K33 q v o hi hs pg tb nb d ow od xs j) := by
  obtain ⟨O, C, Wn⟩ := R_unlockedHours h (xs ((nI j) + (1 : Int32)).toNatClampNeg) (xs ((nI j) + (2 : Int32)).toNatClampNeg) (by omega)
  obtain ⟨p1, p2, p3⟩ := PL_unlockedHours q v (xs ((nI j) + (1 : Int32)).toNatClampNeg) (xs ((nI j) + (2 : Int32)).toNatClampNeg) ow C
  have p2 : f_X10_thrown (f_X10_unlockedHours d (xs ((nI j) + (1 : Int32)).toNatClampNeg) (xs ((nI j) + (2 : Int32)).toNatClampNeg)).2 = (f_L_unlockedHours q v (xs ((nI j) + (1 : Int32)).toNatClampNeg) (xs ((nI j) + (2 : Int32)).toNatClampNeg) ow).1 := p2
  have e : f_K33 q v o hi hs pg tb nb d ow od xs j = (q, v, o, hi, hs, pg, tb, nb, (f_X10_unlockedHours d (xs ((nI j) + (1 : Int32)).toNatClampNeg) (xs ((nI j) + (2 : Int32)).toNatClampNeg)).2, (f_L_unlockedHours q v (xs ((nI j) + (1 : Int32)).toNatClampNeg) (xs ((nI j) + (2 : Int32)).toNatClampNeg) ow).2, od) := by
    unfold f_K33
    exact tv p2 p3 _ _ _
  refine ⟨by unfold ok_K33; exact ⟨p1, O, ti p2 p3⟩, ?_⟩
  rw [e]
  show RW (B + 10000) q v o hi hs tb nb ((f_X10_unlockedHours d (xs ((nI j) + (1 : Int32)).toNatClampNeg) (xs ((nI j) + (2 : Int32)).toNatClampNeg)).2)
  exact Wn.mono (by omega)
