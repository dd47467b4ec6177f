set_option maxHeartbeats 4000000 in
set_option maxRecDepth 100000 in
theorem P_K34 {B : Nat} {q : McV} {v o : StV} {hi : HiV} {hs : Nat → StV} {tb nb : SbV} {d : MoV} (h : RW B q v o hi hs tb nb d) (hB : B < 2 ^ 25) (pg : PrV) (ow : Nat → Int64) (od : Nat → UInt64) (xs : Nat → Int32) (j : Nat) : ok_K34 q v o hi hs pg tb nb d ow od xs j ∧ LR (B + 10000) (f_K34 q v o hi hs pg tb nb d ow od xs j) := by
  obtain ⟨O, C, Wn⟩ := R_openDoorsFor h (xs ((nI j) + (1 : Int32)).toNatClampNeg) (by omega)
  obtain ⟨p1, p2, p3⟩ := PL_openDoorsFor q v (xs ((nI j) + (1 : Int32)).toNatClampNeg) ow C
  have p2 : f_X10_thrown (f_X10_openDoorsFor d (xs ((nI j) + (1 : Int32)).toNatClampNeg)).2 = (f_L_openDoorsFor q v (xs ((nI j) + (1 : Int32)).toNatClampNeg) ow).1 := p2
  have e : f_K34 q v o hi hs pg tb nb d ow od xs j = (q, v, o, hi, hs, pg, tb, nb, (f_X10_openDoorsFor d (xs ((nI j) + (1 : Int32)).toNatClampNeg)).2, (f_L_openDoorsFor q v (xs ((nI j) + (1 : Int32)).toNatClampNeg) ow).2, od) := by
    unfold f_K34
    exact tv p2 p3 _ _ _
  refine ⟨by unfold ok_K34; exact ⟨p1, O, ti p2 p3⟩, ?_⟩
  rw [e]
  show RW (B + 10000) q v o hi hs tb nb ((f_X10_openDoorsFor d (xs ((nI j) + (1 : Int32)).toNatClampNeg)).2)
  exact Wn.mono (by omega)
set_option maxHeartbeats 4000000 in
set_option maxRecDepth 100000 in
theorem P_K35 {B : Nat} {q : McV} {v o : StV} {hi : HiV} {hs : Nat → StV} {tb nb : SbV} {d : MoV} (h : RW B q v o hi hs tb nb d) (hB : B < 2 ^ 25) (pg : PrV) (ow : Nat → Int64) (od : Nat → UInt64) (xs : Nat → Int32) (j : Nat) : ok_K35 q v o hi hs pg tb nb d ow od xs j ∧ LR (B + 10000) (f_K35 q v o hi hs pg tb nb d ow od xs j) := by
  obtain ⟨O, C, Wn⟩ := R_entriesOn h (xs ((nI j) + (1 : Int32)).toNatClampNeg) (xs ((nI j) + (2 : Int32)).toNatClampNeg) (by omega)
  obtain ⟨p1, p2, p3⟩ := PL_entriesOn q v (xs ((nI j) + (1 : Int32)).toNatClampNeg) (xs ((nI j) + (2 : Int32)).toNatClampNeg) ow C
  have p2 : f_X10_thrown (f_X10_entriesOn d (xs ((nI j) + (1 : Int32)).toNatClampNeg) (xs ((nI j) + (2 : Int32)).toNatClampNeg)).2 = (f_L_entriesOn q v (xs ((nI j) + (1 : Int32)).toNatClampNeg) (xs ((nI j) + (2 : Int32)).toNatClampNeg) ow).1 := p2
  have e : f_K35 q v o hi hs pg tb nb d ow od xs j = (q, v, o, hi, hs, pg, tb, nb, (f_X10_entriesOn d (xs ((nI j) + (1 : Int32)).toNatClampNeg) (xs ((nI j) + (2 : Int32)).toNatClampNeg)).2, (f_L_entriesOn q v (xs ((nI j) + (1 : Int32)).toNatClampNeg) (xs ((nI j) + (2 : Int32)).toNatClampNeg) ow).2, od) := by
    unfold f_K35
    exact tv p2 p3 _ _ _
  refine ⟨by unfold ok_K35; exact ⟨p1, O, ti p2 p3⟩, ?_⟩
  rw [e]
  show RW (B + 10000) q v o hi hs tb nb ((f_X10_entriesOn d (xs ((nI j) + (1 : Int32)).toNatClampNeg) (xs ((nI j) + (2 : Int32)).toNatClampNeg)).2)
  exact Wn.mono (by omega)
set_option maxHeartbeats 4000000 in
set_option maxRecDepth 100000 in
theorem P_K36 {B : Nat} {q : McV} {v o : StV} {hi : HiV} {hs : Nat → StV} {tb nb : SbV} {d : MoV} (h : RW B q v o hi hs tb nb d) (hB : B < 2 ^ 25) (pg : PrV) (ow : Nat → Int64) (od : Nat → UInt64) (xs : Nat → Int32) (j : Nat) : ok_K36 q v o hi hs pg tb nb d ow od xs j ∧ LR (B + 10000) (f_K36 q v o hi hs pg tb nb d ow od xs j) := by
  obtain ⟨O, C, Wn⟩ := R_refusalsOn h (xs ((nI j) + (1 : Int32)).toNatClampNeg) (xs ((nI j) + (2 : Int32)).toNatClampNeg) (by omega)
  obtain ⟨p1, p2, p3⟩ := PL_refusalsOn q v (xs ((nI j) + (1 : Int32)).toNatClampNeg) (xs ((nI j) + (2 : Int32)).toNatClampNeg) ow C
  have p2 : f_X10_thrown (f_X10_refusalsOn d (xs ((nI j) + (1 : Int32)).toNatClampNeg) (xs ((nI j) + (2 : Int32)).toNatClampNeg)).2 = (f_L_refusalsOn q v (xs ((nI j) + (1 : Int32)).toNatClampNeg) (xs ((nI j) + (2 : Int32)).toNatClampNeg) ow).1 := p2
  have e : f_K36 q v o hi hs pg tb nb d ow od xs j = (q, v, o, hi, hs, pg, tb, nb, (f_X10_refusalsOn d (xs ((nI j) + (1 : Int32)).toNatClampNeg) (xs ((nI j) + (2 : Int32)).toNatClampNeg)).2, (f_L_refusalsOn q v (xs ((nI j) + (1 : Int32)).toNatClampNeg) (xs ((nI j) + (2 : Int32)).toNatClampNeg) ow).2, od) := by
    unfold f_K36
    exact tv p2 p3 _ _ _
  refine ⟨by unfold ok_K36; exact ⟨p1, O, ti p2 p3⟩, ?_⟩
  rw [e]
  show RW (B + 10000) q v o hi hs tb nb ((f_X10_refusalsOn d (xs ((nI j) + (1 : Int32)).toNatClampNeg) (xs ((nI j) + (2 : Int32)).toNatClampNeg)).2)
  exact Wn.mono (by omega)
set_option maxHeartbeats 4000000 in
set_option maxRecDepth 100000 in
theorem P_K37 {B : Nat} {q : McV} {v o : StV} {hi : HiV} {hs : Nat → StV} {tb nb : SbV} {d : MoV} (h : RW B q v o hi hs tb nb d) (hB : B < 2 ^ 25) (pg : PrV) (ow : Nat → Int64) (od : Nat → UInt64) (xs : Nat → Int32) (j : Nat) : ok_K37 q v o hi hs pg tb nb d ow od xs j ∧ LR (B + 10000) (f_K37 q v o hi hs pg tb nb d ow od xs j) := by
  obtain ⟨O, C, Wn⟩ := R_loggedPerson h (xs ((nI j) + (1 : Int32)).toNatClampNeg) (by omega)
  obtain ⟨p1, p2, p3⟩ := PL_loggedPerson q v (xs ((nI j) + (1 : Int32)).toNatClampNeg) ow C
  have p2 : f_X10_thrown (f_X10_loggedPerson d (xs ((nI j) + (1 : Int32)).toNatClampNeg)).2 = (f_L_loggedPerson q v (xs ((nI j) + (1 : Int32)).toNatClampNeg) ow).1 := p2
  have e : f_K37 q v o hi hs pg tb nb d ow od xs j = (q, v, o, hi, hs, pg, tb, nb, (f_X10_loggedPerson d (xs ((nI j) + (1 : Int32)).toNatClampNeg)).2, (f_L_loggedPerson q v (xs ((nI j) + (1 : Int32)).toNatClampNeg) ow).2, od) := by
    unfold f_K37
    exact tv p2 p3 _ _ _
  refine ⟨by unfold ok_K37; exact ⟨p1, O, ti p2 p3⟩, ?_⟩
  rw [e]
  show RW (B + 10000) q v o hi hs tb nb ((f_X10_loggedPerson d (xs ((nI j) + (1 : Int32)).toNatClampNeg)).2)
  exact Wn.mono (by omega)
set_option maxHeartbeats 4000000 in
set_option maxRecDepth 100000 in
theorem P_K38 {B : Nat} {q : McV} {v o : StV} {hi : HiV} {hs : Nat → StV} {tb nb : SbV} {d : MoV} (h : RW B q v o hi hs tb nb d) (hB : B < 2 ^ 25) (pg : PrV) (ow : Nat → Int64) (od : Nat → UInt64) (xs : Nat → Int32) (j : Nat) : ok_K38 q v o hi hs pg tb nb d ow od xs j ∧ LR (B + 10000) (f_K38 q v o hi hs pg tb nb d ow od xs j) := by
  obtain ⟨O, C, Wn⟩ := R_loggedDoor h (xs ((nI j) + (1 : Int32)).toNatClampNeg) (by omega)
  obtain ⟨p1, p2, p3⟩ := PL_loggedDoor q v (xs ((nI j) + (1 : Int32)).toNatClampNeg) ow C
  have p2 : f_X10_thrown (f_X10_loggedDoor d (xs ((nI j) + (1 : Int32)).toNatClampNeg)).2 = (f_L_loggedDoor q v (xs ((nI j) + (1 : Int32)).toNatClampNeg) ow).1 := p2
  have e : f_K38 q v o hi hs pg tb nb d ow od xs j = (q, v, o, hi, hs, pg, tb, nb, (f_X10_loggedDoor d (xs ((nI j) + (1 : Int32)).toNatClampNeg)).2, (f_L_loggedDoor q v (xs ((nI j) + (1 : Int32)).toNatClampNeg) ow).2, od) := by
    unfold f_K38
    exact tv p2 p3 _ _ _
  refine ⟨by unfold ok_K38; exact ⟨p1, O, ti p2 p3⟩, ?_⟩
  rw [e]
  show RW (B + 10000) q v o hi hs tb nb ((f_X10_loggedDoor d (xs ((nI j) + (1 : Int32)).toNatClampNeg)).2)
  exact Wn.mono (by omega)
set_option maxHeartbeats 4000000 in
set_option maxRecDepth 100000 in
theorem P_K39 {B : Nat} {q : McV} {v o : StV} {hi : HiV} {hs : Nat → StV} {tb nb : SbV} {d : MoV} (h : RW B q v o hi hs tb nb d) (hB : B < 2 ^ 25) (pg : PrV) (ow : Nat → Int64) (od : Nat → UInt64) (xs : Nat → Int32) (j : Nat) : ok_K39 q v o hi hs pg tb nb d ow od xs j ∧ LR (B + 10000) (f_K39 q v o hi hs pg tb nb d ow od xs j) := by
  obtain ⟨O, C, Wn⟩ := R_loggedResult h (xs ((nI j) + (1 : Int32)).toNatClampNeg) (by omega)
  obtain ⟨p1, p2, p3⟩ := PL_loggedResult q v (xs ((nI j) + (1 : Int32)).toNatClampNeg) ow C
  have p2 : f_X10_thrown (f_X10_loggedResult d (xs ((nI j) + (1 : Int32)).toNatClampNeg)).2 = (f_L_loggedResult q v (xs ((nI j) + (1 : Int32)).toNatClampNeg) ow).1 := p2
  have e : f_K39 q v o hi hs pg tb nb d ow od xs j = (q, v, o, hi, hs, pg, tb, nb, (f_X10_loggedResult d (xs ((nI j) + (1 : Int32)).toNatClampNeg)).2, (f_L_loggedResult q v (xs ((nI j) + (1 : Int32)).toNatClampNeg) ow).2, od) := by
    unfold f_K39
    exact tv p2 p3 _ _ _
  refine ⟨by unfold ok_K39; exact ⟨p1, O, ti p2 p3⟩, ?_⟩
  rw [e]
  show RW (B + 10000) q v o hi hs tb nb ((f_X10_loggedResult d (xs ((nI j) + (1 : Int32)).toNatClampNeg)).2)
  exact Wn.mono (by omega)
set_option maxHeartbeats 4000000 in
set_option maxRecDepth 100000 in
theorem P_K40 {B : Nat} {q : McV} {v o : StV} {hi : HiV} {hs : Nat → StV} {tb nb : SbV} {d : MoV} (h : RW B q v o hi hs tb nb d) (hB : B < 2 ^ 25) (pg : PrV) (ow : Nat → Int64) (od : Nat → UInt64) (xs : Nat → Int32) (j : Nat) : ok_K40 q v o hi hs pg tb nb d ow od xs j ∧ LR (B + 10000) (f_K40 q v o hi hs pg tb nb d ow od xs j) := by
  obtain ⟨O, C, Wn⟩ := R_attemptsWith h (xs ((nI j) + (1 : Int32)).toNatClampNeg)
  obtain ⟨p1, p2, p3⟩ := PL_attemptsWith q v (xs ((nI j) + (1 : Int32)).toNatClampNeg) ow C
  have p2 : f_X10_thrown (f_X10_attemptsWith d (xs ((nI j) + (1 : Int32)).toNatClampNeg)).2 = (f_L_attemptsWith q v (xs ((nI j) + (1 : Int32)).toNatClampNeg) ow).1 := p2
  have e : f_K40 q v o hi hs pg tb nb d ow od xs j = (q, v, o, hi, hs, pg, tb, nb, (f_X10_attemptsWith d (xs ((nI j) + (1 : Int32)).toNatClampNeg)).2, (f_L_attemptsWith q v (xs ((nI j) + (1 : Int32)).toNatClampNeg) ow).2, od) := by
    unfold f_K40
    exact tv p2 p3 _ _ _
  refine ⟨by unfold ok_K40; exact ⟨p1, O, ti p2 p3⟩, ?_⟩
  rw [e]
  show RW (B + 10000) q v o hi hs tb nb ((f_X10_attemptsWith d (xs ((nI j) + (1 : Int32)).toNatClampNeg)).2)
  exact Wn.mono (by omega)
set_option maxHeartbeats 4000000 in
set_option maxRecDepth 100000 in
theorem P_K41 {B : Nat} {q : McV} {v o : StV} {hi : HiV} {hs : Nat → StV} {tb nb : SbV} {d : MoV} (h : RW B q v o hi hs tb nb d) (hB : B < 2 ^ 25) (pg : PrV) (ow : Nat → Int64) (od : Nat → UInt64) (xs : Nat → Int32) (j : Nat) : ok_K41 q v o hi hs pg tb nb d ow od xs j ∧ LR (B + 10000) (f_K41 q v o hi hs pg tb nb d ow od xs j) := by
  obtain ⟨⟨O, O2⟩, C, Wn⟩ := R_entryShare h (by omega)
  have eL : f_L_entryShare q v od = (if (f_X9_entryShare q v).1 = "" then ((0 : Int32), vf_upd od (0 : Int32).toNatClampNeg (f_X9_entryShare q v).2) else (if (f_X9_entryShare q v).1 = "java/lang/ArithmeticException" then ((1 : Int32), od) else (0, od))) := rfl
  have key : ok_L_entryShare q v od ∧ f_X10_thrown (f_X10_entryShare d).2 = (f_L_entryShare q v od).1 ∧ ((f_L_entryShare q v od).1 = 0 → (f_L_entryShare q v od).2 (0 : Int32).toNatClampNeg = (f_X10_entryShare d).1) := by
    rcases C with ⟨e1, e2, e3, -⟩ | ⟨e1, e2⟩
    · have eL := eL.trans (if_pos e1)
      refine ⟨by unfold ok_L_entryShare; exact ⟨O2, (if_pos e1).mpr trivial⟩, ?_⟩
      rw [eL]
      exact ⟨e2, fun _ => (show vf_upd od (0 : Int32).toNatClampNeg (f_X9_entryShare q v).2 (0 : Int32).toNatClampNeg = _ from (updD_self _ _ _).trans e3)⟩
    · have eL := eL.trans ((if_neg (by rw [e1]; decide)).trans (if_pos e1))
      refine ⟨by unfold ok_L_entryShare; exact ⟨O2, (if_neg (by rw [e1]; decide)).mpr ((if_pos e1).mpr trivial)⟩, ?_⟩
      rw [eL]
      exact ⟨e2, fun w => absurd (show (1 : Int32) = 0 from w) (by decide)⟩
  obtain ⟨p1, p2, p3⟩ := key
  have p4 : (f_L_entryShare q v od).1 = 0 → Op.cmpValue (FP.dcmp ((f_L_entryShare q v od).2 (0 : Int32).toNatClampNeg) ((f_L_entryShare q v od).2 (0 : Int32).toNatClampNeg)) .l = Op.cmpValue (FP.dcmp ((f_L_entryShare q v od).2 (0 : Int32).toNatClampNeg) (f_X10_entryShare d).1) .l ∧ Op.cmpValue (FP.dcmp (f_X10_entryShare d).1 (f_X10_entryShare d).1) .l = Op.cmpValue (FP.dcmp ((f_L_entryShare q v od).2 (0 : Int32).toNatClampNeg) (f_X10_entryShare d).1) .l := fun w => by rw [p3 w]; exact ⟨rfl, rfl⟩
  have e : f_K41 q v o hi hs pg tb nb d ow od xs j = (q, v, o, hi, hs, pg, tb, nb, (f_X10_entryShare d).2, ow, (f_L_entryShare q v od).2) := by
    unfold f_K41
    exact tev p2 p4 _ _ _ _
  refine ⟨by unfold ok_K41; exact ⟨p1, O, tei p2 p4⟩, ?_⟩
  rw [e]
  exact Wn.mono (by omega)
set_option maxHeartbeats 4000000 in
set_option maxRecDepth 100000 in
theorem P_K42 {B : Nat} {q : McV} {v o : StV} {hi : HiV} {hs : Nat → StV} {tb nb : SbV} {d : MoV} (h : RW B q v o hi hs tb nb d) (hB : B < 2 ^ 25) (pg : PrV) (ow : Nat → Int64) (od : Nat → UInt64) (xs : Nat → Int32) (j : Nat) : ok_K42 q v o hi hs pg tb nb d ow od xs j ∧ LR (B + 10000) (f_K42 q v o hi hs pg tb nb d ow od xs j) := by
  obtain ⟨⟨O, O2⟩, C, Wn⟩ := R_writeNotice h (by omega) (xs ((nI j) + (1 : Int32)).toNatClampNeg)
  obtain ⟨p1, p2, p3, p4⟩ := PL_writeNotice q v nb (xs ((nI j) + (1 : Int32)).toNatClampNeg) ow O2 C
  have p2 : f_X10_thrown (f_X10_writeNotice d (xs ((nI j) + (1 : Int32)).toNatClampNeg)).2 = (f_L_writeNotice q v nb (xs ((nI j) + (1 : Int32)).toNatClampNeg) ow).1 := p2
  have e : f_K42 q v o hi hs pg tb nb d ow od xs j = (q, v, o, hi, hs, pg, tb, (f_L_writeNotice q v nb (xs ((nI j) + (1 : Int32)).toNatClampNeg) ow).2.1, (f_X10_writeNotice d (xs ((nI j) + (1 : Int32)).toNatClampNeg)).2, (f_L_writeNotice q v nb (xs ((nI j) + (1 : Int32)).toNatClampNeg) ow).2.2, od) := by
    unfold f_K42
    exact tv p2 p3 _ _ _
  refine ⟨by unfold ok_K42; exact ⟨p1, O, ti p2 p3⟩, ?_⟩
  rw [e]
  show RW (B + 10000) q v o hi hs tb ((f_L_writeNotice q v nb (xs ((nI j) + (1 : Int32)).toNatClampNeg) ow).2.1) ((f_X10_writeNotice d (xs ((nI j) + (1 : Int32)).toNatClampNeg)).2)
  rw [p4]
  exact Wn.mono (by omega)
set_option maxHeartbeats 4000000 in
set_option maxRecDepth 100000 in
theorem P_K43 {B : Nat} {q : McV} {v o : StV} {hi : HiV} {hs : Nat → StV} {tb nb : SbV} {d : MoV} (h : RW B q v o hi hs tb nb d) (hB : B < 2 ^ 25) (pg : PrV) (ow : Nat → Int64) (od : Nat → UInt64) (xs : Nat → Int32) (j : Nat) : ok_K43 q v o hi hs pg tb nb d ow od xs j ∧ LR (B + 10000) (f_K43 q v o hi hs pg tb nb d ow od xs j) := by
  obtain ⟨⟨O, O2⟩, C, Wn⟩ := R_noticeAt h (xs ((nI j) + (1 : Int32)).toNatClampNeg)
  obtain ⟨p1, p2, p3⟩ := PL_noticeAt q nb (xs ((nI j) + (1 : Int32)).toNatClampNeg) ow O2 C
  have p2 : f_X10_thrown (f_X10_noticeAt d (xs ((nI j) + (1 : Int32)).toNatClampNeg)).2 = (f_L_noticeAt q nb (xs ((nI j) + (1 : Int32)).toNatClampNeg) ow).1 := p2
  have e : f_K43 q v o hi hs pg tb nb d ow od xs j = (q, v, o, hi, hs, pg, tb, nb, (f_X10_noticeAt d (xs ((nI j) + (1 : Int32)).toNatClampNeg)).2, (f_L_noticeAt q nb (xs ((nI j) + (1 : Int32)).toNatClampNeg) ow).2, od) := by
    unfold f_K43
    exact tv p2 p3 _ _ _
  refine ⟨by unfold ok_K43; exact ⟨p1, O, ti p2 p3⟩, ?_⟩
  rw [e]
  show RW (B + 10000) q v o hi hs tb nb ((f_X10_noticeAt d (xs ((nI j) + (1 : Int32)).toNatClampNeg)).2)
  exact Wn.mono (by omega)
set_option maxHeartbeats 4000000 in
set_option maxRecDepth 100000 in
theorem P_K44 {B : Nat} {q : McV} {v o : StV} {hi : HiV} {hs : Nat → StV} {tb nb : SbV} {d : MoV} (h : RW B q v o hi hs tb nb d) (hB : B < 2 ^ 25) (pg : PrV) (ow : Nat → Int64) (od : Nat → UInt64) (xs : Nat → Int32) (j : Nat) : ok_K44 q v o hi hs pg tb nb d ow od xs j ∧ LR (B + 10000) (f_K44 q v o hi hs pg tb nb d ow od xs j) := by
  obtain ⟨⟨O, O2⟩, C, Wn⟩ := R_type h pg (((xs ((nI j) + (1 : Int32)).toNatClampNeg).toUInt32 % 65536).toInt32)
  obtain ⟨p1, p2, p3, p4⟩ := PL_type q pg tb (((xs ((nI j) + (1 : Int32)).toNatClampNeg).toUInt32 % 65536).toInt32) ow O2 C
  have p2 : f_X10_thrown (f_X10_type d (((xs ((nI j) + (1 : Int32)).toNatClampNeg).toUInt32 % 65536).toInt32)).2 = (f_L_type q pg tb (((xs ((nI j) + (1 : Int32)).toNatClampNeg).toUInt32 % 65536).toInt32) ow).1 := p2
  have e : f_K44 q v o hi hs pg tb nb d ow od xs j = (q, v, o, hi, hs, pg, (f_L_type q pg tb (((xs ((nI j) + (1 : Int32)).toNatClampNeg).toUInt32 % 65536).toInt32) ow).2.1, nb, (f_X10_type d (((xs ((nI j) + (1 : Int32)).toNatClampNeg).toUInt32 % 65536).toInt32)).2, (f_L_type q pg tb (((xs ((nI j) + (1 : Int32)).toNatClampNeg).toUInt32 % 65536).toInt32) ow).2.2, od) := by
    unfold f_K44
    exact tv p2 p3 _ _ _
  refine ⟨by unfold ok_K44; exact ⟨p1, O, ti p2 p3⟩, ?_⟩
  rw [e]
  show RW (B + 10000) q v o hi hs ((f_L_type q pg tb (((xs ((nI j) + (1 : Int32)).toNatClampNeg).toUInt32 % 65536).toInt32) ow).2.1) nb ((f_X10_type d (((xs ((nI j) + (1 : Int32)).toNatClampNeg).toUInt32 % 65536).toInt32)).2)
  rw [p4]
  exact Wn.mono (by omega)
theorem thrown_eq (d : MoV) : f_X10_thrown d = d.2.2.2.2.2.1 := rfl
theorem f_K45_def (q : McV) (v : StV) (o : StV) (hi : HiV) (hs : Nat → StV) (pg : PrV) (tb : SbV) (nb : SbV) (d : MoV) (ow : Nat → Int64) (od : Nat → UInt64) (xs : Nat → Int32) (j : Nat) : f_K45 q v o hi hs pg tb nb d ow od xs j = g_K45 (f_L_execute q v hi hs pg tb ow) (f_X10_execute d) q v o hi hs pg tb nb d ow od xs j := rfl
theorem PG_45 {B B1 : Nat} (X : Int32 × McV × StV × HiV × (Nat → StV) × PrV × SbV × (Nat → Int64)) (Y : Int32 × MoV) (q : McV) (v o : StV) (hi : HiV) (hs : Nat → StV) (pg : PrV) (tb nb : SbV) (d : MoV) (ow : Nat → Int64) (od : Nat → UInt64) (xs : Nat → Int32) (j : Nat) {b th : Int32} (e1 : b = Y.1) (e2 : th = Y.2.2.2.2.2.2.1) (p2 : th = X.1) (p3 : X.1 = 0 → X.2.2.2.2.2.2.2 (0 : Int32).toNatClampNeg = b.toInt64) {q2 : McV} {v2 : StV} {hi2 : HiV} {hs2 : Nat → StV} {tb2 : SbV} (p4 : X.2.1 = q2) (p5 : X.2.2.1 = v2) (p6 : X.2.2.2.1 = hi2) (p7 : X.2.2.2.2.1 = hs2) (p9 : X.2.2.2.2.2.2.1 = tb2) (Wn : RW B1 q2 v2 o hi2 hs2 tb2 nb Y.2) (hB : B1 ≤ B) : (∀ (X1 : Int32 × McV × StV × HiV × (Nat → StV) × PrV × SbV × (Nat → Int64)) (Y1 : Int32 × MoV), X1 = X → Y1 = Y → gok_K45 X1 Y1) ∧ LR B (g_K45 X Y q v o hi hs pg tb nb d ow od xs j) := by
  subst e1
  subst e2
  have p2 : f_X10_thrown Y.2 = X.1 := p2
  have e : g_K45 X Y q v o hi hs pg tb nb d ow od xs j = (X.2.1, X.2.2.1, o, X.2.2.2.1, X.2.2.2.2.1, X.2.2.2.2.2.1, X.2.2.2.2.2.2.1, nb, Y.2, X.2.2.2.2.2.2.2, od) := by
    unfold g_K45
    exact tv p2 p3 _ _ _
  refine ⟨fun X1 Y1 h1 h2 => by subst h1; subst h2; unfold gok_K45; exact ti p2 p3, ?_⟩
  rw [e]
  show RW B X.2.1 X.2.2.1 o X.2.2.2.1 X.2.2.2.2.1 X.2.2.2.2.2.2.1 nb Y.2
  rw [p4, p5, p6, p7, p9]
  exact Wn.mono hB
set_option maxHeartbeats 800000 in
set_option maxRecDepth 100000 in
theorem P_K45 {B : Nat} {q : McV} {v o : StV} {hi : HiV} {hs : Nat → StV} {tb nb : SbV} {d : MoV} (h : RW B q v o hi hs tb nb d) (hB : B < 2 ^ 25) (pg : PrV) (ow : Nat → Int64) (od : Nat → UInt64) (xs : Nat → Int32) (j : Nat) : ok_K45 q v o hi hs pg tb nb d ow od xs j ∧ LR (B + 10000) (f_K45 q v o hi hs pg tb nb d ow od xs j) := by
  have R := R_execute h (by omega) pg
  have O := R.1.1
  have O2 := R.1.2
  have C := R.2.1
  have Wn := R.2.2
  have L := PL_execute q v hi hs pg tb ow O2 h.nx C
  have g := PG_45 (B := B + 10000) (f_L_execute q v hi hs pg tb ow) (f_X10_execute d) q v o hi hs pg tb nb d ow od xs j rfl rfl L.2.1 L.2.2.1 L.2.2.2.1 L.2.2.2.2.1 L.2.2.2.2.2.1 L.2.2.2.2.2.2.1 L.2.2.2.2.2.2.2.2 Wn (by omega)
  rw [f_K45_def]
  exact ⟨⟨L.1, O, g.1⟩, g.2⟩
set_option maxHeartbeats 4000000 in
set_option maxRecDepth 100000 in
theorem P_K46 {B : Nat} {q : McV} {v o : StV} {hi : HiV} {hs : Nat → StV} {tb nb : SbV} {d : MoV} (h : RW B q v o hi hs tb nb d) (hB : B < 2 ^ 25) (pg : PrV) (ow : Nat → Int64) (od : Nat → UInt64) (xs : Nat → Int32) (j : Nat) : ok_K46 q v o hi hs pg tb nb d ow od xs j ∧ LR (B + 10000) (f_K46 q v o hi hs pg tb nb d ow od xs j) := by
  obtain ⟨O, C, Wn⟩ := R_errorPosition h
  obtain ⟨p1, p2, p3⟩ := PL_errorPosition q ow C
  have p2 : f_X10_thrown (f_X10_errorPosition d).2 = (f_L_errorPosition q ow).1 := p2
  have e : f_K46 q v o hi hs pg tb nb d ow od xs j = (q, v, o, hi, hs, pg, tb, nb, (f_X10_errorPosition d).2, (f_L_errorPosition q ow).2, od) := by
    unfold f_K46
    exact tv p2 p3 _ _ _
  refine ⟨by unfold ok_K46; exact ⟨p1, ti p2 p3⟩, ?_⟩
  rw [e]
  show RW (B + 10000) q v o hi hs tb nb ((f_X10_errorPosition d).2)
  exact Wn.mono (by omega)
set_option maxHeartbeats 4000000 in
set_option maxRecDepth 100000 in
theorem P_K47 {B : Nat} {q : McV} {v o : StV} {hi : HiV} {hs : Nat → StV} {tb nb : SbV} {d : MoV} (h : RW B q v o hi hs tb nb d) (hB : B < 2 ^ 25) (pg : PrV) (ow : Nat → Int64) (od : Nat → UInt64) (xs : Nat → Int32) (j : Nat) : ok_K47 q v o hi hs pg tb nb d ow od xs j ∧ LR (B + 10000) (f_K47 q v o hi hs pg tb nb d ow od xs j) := by
  obtain ⟨O, C, Wn⟩ := R_failedCommand h
  obtain ⟨p1, p2, p3⟩ := PL_failedCommand q ow C
  have p2 : f_X10_thrown (f_X10_failedCommand d).2 = (f_L_failedCommand q ow).1 := p2
  have e : f_K47 q v o hi hs pg tb nb d ow od xs j = (q, v, o, hi, hs, pg, tb, nb, (f_X10_failedCommand d).2, (f_L_failedCommand q ow).2, od) := by
    unfold f_K47
    exact tv p2 p3 _ _ _
  refine ⟨by unfold ok_K47; exact ⟨p1, ti p2 p3⟩, ?_⟩
  rw [e]
  show RW (B + 10000) q v o hi hs tb nb ((f_X10_failedCommand d).2)
  exact Wn.mono (by omega)
set_option maxHeartbeats 4000000 in
set_option maxRecDepth 100000 in
theorem P_K48 {B : Nat} {q : McV} {v o : StV} {hi : HiV} {hs : Nat → StV} {tb nb : SbV} {d : MoV} (h : RW B q v o hi hs tb nb d) (hB : B < 2 ^ 25) (pg : PrV) (ow : Nat → Int64) (od : Nat → UInt64) (xs : Nat → Int32) (j : Nat) : ok_K48 q v o hi hs pg tb nb d ow od xs j ∧ LR (B + 10000) (f_K48 q v o hi hs pg tb nb d ow od xs j) := by
  obtain ⟨⟨O, O2⟩, C, Wn⟩ := R_undo h
  obtain ⟨p1, p2, p3, p4, p5, p6⟩ := PL_undo q v hi hs ow O2 C
  have p2 : f_X10_thrown (f_X10_undo d).2 = (f_L_undo q v hi hs ow).1 := p2
  have e : f_K48 q v o hi hs pg tb nb d ow od xs j = (q, (f_L_undo q v hi hs ow).2.1, o, (f_L_undo q v hi hs ow).2.2.1, (f_L_undo q v hi hs ow).2.2.2.1, pg, tb, nb, (f_X10_undo d).2, (f_L_undo q v hi hs ow).2.2.2.2, od) := by
    unfold f_K48
    exact tv p2 p3 _ _ _
  refine ⟨by unfold ok_K48; exact ⟨p1, O, ti p2 p3⟩, ?_⟩
  rw [e]
  show RW (B + 10000) q ((f_L_undo q v hi hs ow).2.1) o ((f_L_undo q v hi hs ow).2.2.1) ((f_L_undo q v hi hs ow).2.2.2.1) tb nb ((f_X10_undo d).2)
  rw [p4, p5, p6]
  exact Wn.mono (by omega)
set_option maxHeartbeats 4000000 in
set_option maxRecDepth 100000 in
theorem P_K49 {B : Nat} {q : McV} {v o : StV} {hi : HiV} {hs : Nat → StV} {tb nb : SbV} {d : MoV} (h : RW B q v o hi hs tb nb d) (hB : B < 2 ^ 25) (pg : PrV) (ow : Nat → Int64) (od : Nat → UInt64) (xs : Nat → Int32) (j : Nat) : ok_K49 q v o hi hs pg tb nb d ow od xs j ∧ LR (B + 10000) (f_K49 q v o hi hs pg tb nb d ow od xs j) := by
  obtain ⟨O, e1, -, Wn⟩ := R_save h
  have e : f_K49 q v o hi hs pg tb nb d ow od xs j = ((f_X9_save q v o).2.1, v, (f_X9_save q v o).2.2, hi, hs, pg, tb, nb, (f_X10_save d).2, ow, od) := by
    unfold f_K49
    exact if_pos e1
  refine ⟨by unfold ok_K49; exact ⟨O, (if_pos e1).mpr trivial⟩, ?_⟩
  rw [e]
  exact Wn.mono (by omega)
set_option maxHeartbeats 4000000 in
set_option maxRecDepth 100000 in
theorem P_K50 {B : Nat} {q : McV} {v o : StV} {hi : HiV} {hs : Nat → StV} {tb nb : SbV} {d : MoV} (h : RW B q v o hi hs tb nb d) (hB : B < 2 ^ 25) (pg : PrV) (ow : Nat → Int64) (od : Nat → UInt64) (xs : Nat → Int32) (j : Nat) : ok_K50 q v o hi hs pg tb nb d ow od xs j ∧ LR (B + 10000) (f_K50 q v o hi hs pg tb nb d ow od xs j) := by
  obtain ⟨O, C, Wn⟩ := R_restore h
  obtain ⟨p1, p2, p3, p4, p5⟩ := PL_restore q v o hi ow C
  have p2 : f_X10_thrown (f_X10_restore d).2 = (f_L_restore q v o hi ow).1 := p2
  have e : f_K50 q v o hi hs pg tb nb d ow od xs j = (q, (f_L_restore q v o hi ow).2.1, o, (f_L_restore q v o hi ow).2.2.1, hs, pg, tb, nb, (f_X10_restore d).2, (f_L_restore q v o hi ow).2.2.2, od) := by
    unfold f_K50
    exact tv p2 p3 _ _ _
  refine ⟨by unfold ok_K50; exact ⟨p1, O, ti p2 p3⟩, ?_⟩
  rw [e]
  show RW (B + 10000) q ((f_L_restore q v o hi ow).2.1) o ((f_L_restore q v o hi ow).2.2.1) hs tb nb ((f_X10_restore d).2)
  rw [p4, p5]
  exact Wn.mono (by omega)
