/-! ===== the law's pure side ===== -/
def LR (B : Nat) (u : LwT) : Prop := RW B u.1 u.2.1 u.2.2.1 u.2.2.2.1 u.2.2.2.2.1 u.2.2.2.2.2.2.1 u.2.2.2.2.2.2.2.1 u.2.2.2.2.2.2.2.2.1
theorem updL_self (f : Nat → Int64) (k : Nat) (x : Int64) : vp_updL f k x k = x := if_pos rfl
theorem updD_self (f : Nat → UInt64) (k : Nat) (x : UInt64) : vf_upd f k x k = x := if_pos rfl
theorem lcmp_self (x : Int64) : lg_cmp x x = 0 := by simp [lg_cmp]
theorem RW.nx {B : Nat} {q : McV} {v sn : StV} {hi : HiV} {hs : Nat → StV} {tb nt : SbV} {d : MoV} (h : RW B q v sn hi hs tb nt d) : nx9 hi.2 := by
  obtain ⟨-, ⟨k, x, -, hx, -, e, -, -⟩, -⟩ := h
  unfold nx9
  rw [e]
  rcases (show x = 0 ∨ x = 1 ∨ x = 2 ∨ x = 3 ∨ x = 4 ∨ x = 5 ∨ x = 6 ∨ x = 7 ∨ x = 8 by omega) with rfl | rfl | rfl | rfl | rfl | rfl | rfl | rfl | rfl <;> decide
theorem ti {th k : Int32} {x y : Int64} (h : th = k) (h2 : k = 0 → x = y) : (if th = k then (if k = (0 : Int32) then (if lg_cmp x y = (0 : Int32) then True else False) else True) else False) := by
  rw [if_pos h]
  by_cases e : k = 0
  · rw [if_pos e, h2 e, if_pos (lcmp_self y)]; trivial
  · rw [if_neg e]; trivial
theorem tv {α : Type} {th k : Int32} {x y : Int64} (h : th = k) (h2 : k = 0 → x = y) (a z1 z2 : α) : (if th = k then (if k = (0 : Int32) then (if lg_cmp x y = (0 : Int32) then a else z1) else a) else z2) = a := by
  rw [if_pos h]
  by_cases e : k = 0
  · rw [if_pos e, h2 e, if_pos (lcmp_self y)]
  · rw [if_neg e]
theorem tib {th k b : Int32} {x : Int64} (h : th = k) (h2 : k = 0 → x = if b = (0 : Int32) then (0 : Int64) else 1) : (if th = k then (if k = (0 : Int32) then (if b = (0 : Int32) then (if lg_cmp x (0 : Int64) = (0 : Int32) then True else False) else (if lg_cmp x (1 : Int64) = (0 : Int32) then True else False)) else True) else False) := by
  rw [if_pos h]
  by_cases e : k = 0
  · rw [if_pos e, h2 e]
    by_cases f : b = 0
    · rw [if_pos f, if_pos f, if_pos (lcmp_self _)]; trivial
    · rw [if_neg f, if_neg f, if_pos (lcmp_self _)]; trivial
  · rw [if_neg e]; trivial
theorem tvb {α : Type} {th k b : Int32} {x : Int64} (h : th = k) (h2 : k = 0 → x = if b = (0 : Int32) then (0 : Int64) else 1) (a z1 z2 z3 : α) : (if th = k then (if k = (0 : Int32) then (if b = (0 : Int32) then (if lg_cmp x (0 : Int64) = (0 : Int32) then a else z1) else (if lg_cmp x (1 : Int64) = (0 : Int32) then a else z2)) else a) else z3) = a := by
  rw [if_pos h]
  by_cases e : k = 0
  · rw [if_pos e, h2 e]
    by_cases f : b = 0
    · rw [if_pos f, if_pos f, if_pos (lcmp_self _)]
    · rw [if_neg f, if_neg f, if_pos (lcmp_self _)]
  · rw [if_neg e]
theorem RC_1 {E0 E : String} {a b th : Int32} (C : RC [E0] E a b th) : E = "" ∧ th = 0 ∧ a = b ∨ E = E0 ∧ th = 1 := by
  rcases C with h | ⟨i, hi, hx, hne, ht⟩
  · exact Or.inl h
  · rcases (show i = 0 ∨ i = 1 ∨ i = 2 ∨ i = 3 ∨ i = 4 by omega) with e | e | e | e | e <;> subst e
    · exact Or.inr ⟨(Option.some.inj (show some E0 = some E from hx)).symm, ht⟩
    · exact absurd hx (by simp)
    · exact absurd hx (by simp)
    · exact absurd hx (by simp)
    · exact absurd hx (by simp)
theorem RC_2 {E0 E1 E : String} {a b th : Int32} (C : RC [E0, E1] E a b th) : E = "" ∧ th = 0 ∧ a = b ∨ E = E0 ∧ th = 1 ∨ E = E1 ∧ th = 2 := by
  rcases C with h | ⟨i, hi, hx, hne, ht⟩
  · exact Or.inl h
  · rcases (show i = 0 ∨ i = 1 ∨ i = 2 ∨ i = 3 ∨ i = 4 by omega) with e | e | e | e | e <;> subst e
    · exact Or.inr (Or.inl ⟨(Option.some.inj (show some E0 = some E from hx)).symm, ht⟩)
    · exact Or.inr (Or.inr ⟨(Option.some.inj (show some E1 = some E from hx)).symm, ht⟩)
    · exact absurd hx (by simp)
    · exact absurd hx (by simp)
    · exact absurd hx (by simp)
theorem RC_3 {E0 E1 E2 E : String} {a b th : Int32} (C : RC [E0, E1, E2] E a b th) : E = "" ∧ th = 0 ∧ a = b ∨ E = E0 ∧ th = 1 ∨ E = E1 ∧ th = 2 ∨ E = E2 ∧ th = 3 := by
  rcases C with h | ⟨i, hi, hx, hne, ht⟩
  · exact Or.inl h
  · rcases (show i = 0 ∨ i = 1 ∨ i = 2 ∨ i = 3 ∨ i = 4 by omega) with e | e | e | e | e <;> subst e
    · exact Or.inr (Or.inl ⟨(Option.some.inj (show some E0 = some E from hx)).symm, ht⟩)
    · exact Or.inr (Or.inr (Or.inl ⟨(Option.some.inj (show some E1 = some E from hx)).symm, ht⟩))
    · exact Or.inr (Or.inr (Or.inr ⟨(Option.some.inj (show some E2 = some E from hx)).symm, ht⟩))
    · exact absurd hx (by simp)
    · exact absurd hx (by simp)
theorem RC_4 {E0 E1 E2 E3 E : String} {a b th : Int32} (C : RC [E0, E1, E2, E3] E a b th) : E = "" ∧ th = 0 ∧ a = b ∨ E = E0 ∧ th = 1 ∨ E = E1 ∧ th = 2 ∨ E = E2 ∧ th = 3 ∨ E = E3 ∧ th = 4 := by
  rcases C with h | ⟨i, hi, hx, hne, ht⟩
  · exact Or.inl h
  · rcases (show i = 0 ∨ i = 1 ∨ i = 2 ∨ i = 3 ∨ i = 4 by omega) with e | e | e | e | e <;> subst e
    · exact Or.inr (Or.inl ⟨(Option.some.inj (show some E0 = some E from hx)).symm, ht⟩)
    · exact Or.inr (Or.inr (Or.inl ⟨(Option.some.inj (show some E1 = some E from hx)).symm, ht⟩))
    · exact Or.inr (Or.inr (Or.inr (Or.inl ⟨(Option.some.inj (show some E2 = some E from hx)).symm, ht⟩)))
    · exact Or.inr (Or.inr (Or.inr (Or.inr ⟨(Option.some.inj (show some E3 = some E from hx)).symm, ht⟩)))
    · exact absurd hx (by simp)
theorem T_addDoor (q : McV) (v : StV) (hi : HiV) (hs : Nat → StV) (ph : Int32) (fh : Int32) (lh : Int32) (ke : Int32) : (f_X9_addDoor q v hi hs ph fh lh ke).1 = "" ∨ (f_X9_addDoor q v hi hs ph fh lh ke).2.2 = (v, hi, hs) := by
  unfold f_X9_addDoor
  try dsimp only
  repeat' split
  all_goals first | exact Or.inl rfl | exact Or.inr rfl
theorem PL_addDoor (q : McV) (v : StV) (hi : HiV) (hs : Nat → StV) (ph : Int32) (fh : Int32) (lh : Int32) (ke : Int32) (ow : Nat → Int64) (k2 : nx9 hi.2) {b th : Int32} (C : RC ["java/lang/IllegalArgumentException", "java/lang/IllegalStateException"] (f_X9_addDoor q v hi hs ph fh lh ke).1 (f_X9_addDoor q v hi hs ph fh lh ke).2.1 b th) : ok_L_addDoor q v hi hs ph fh lh ke ow ∧ th = (f_L_addDoor q v hi hs ph fh lh ke ow).1 ∧ ((f_L_addDoor q v hi hs ph fh lh ke ow).1 = 0 → (f_L_addDoor q v hi hs ph fh lh ke ow).2.2.2.2 (0 : Int32).toNatClampNeg = b.toInt64) ∧ (f_L_addDoor q v hi hs ph fh lh ke ow).2.1 = (f_X9_addDoor q v hi hs ph fh lh ke).2.2.1 ∧ (f_L_addDoor q v hi hs ph fh lh ke ow).2.2.1 = (f_X9_addDoor q v hi hs ph fh lh ke).2.2.2.1 ∧ (f_L_addDoor q v hi hs ph fh lh ke ow).2.2.2.1 = (f_X9_addDoor q v hi hs ph fh lh ke).2.2.2.2 := by
  have eL : (f_L_addDoor q v hi hs ph fh lh ke ow) = (if (f_X9_addDoor q v hi hs ph fh lh ke).1 = "" then ((0 : Int32), (f_X9_addDoor q v hi hs ph fh lh ke).2.2.1, (f_X9_addDoor q v hi hs ph fh lh ke).2.2.2.1, (f_X9_addDoor q v hi hs ph fh lh ke).2.2.2.2, (vp_updL ow (0 : Int32).toNatClampNeg (f_X9_addDoor q v hi hs ph fh lh ke).2.1.toInt64)) else (if (f_X9_addDoor q v hi hs ph fh lh ke).1 = "java/lang/IllegalArgumentException" then ((1 : Int32), v, hi, hs, ow) else (if (f_X9_addDoor q v hi hs ph fh lh ke).1 = "java/lang/IllegalStateException" then ((2 : Int32), v, hi, hs, ow) else (0, v, hi, hs, ow)))) := rfl
  rcases RC_2 C with ⟨e1, e2, e3⟩ | ⟨e1, e2⟩ | ⟨e1, e2⟩
  · have eL := eL.trans (if_pos e1)
    refine ⟨by unfold ok_L_addDoor; exact ⟨k2, (if_pos e1).mpr trivial⟩, ?_⟩
    rw [eL]
    exact ⟨e2, fun _ => (show vp_updL ow (0 : Int32).toNatClampNeg ((f_X9_addDoor q v hi hs ph fh lh ke).2.1).toInt64 (0 : Int32).toNatClampNeg = _ from (updL_self _ _ _).trans (congrArg Int32.toInt64 e3)), rfl, rfl, rfl⟩
  · have eL := eL.trans ((if_neg (by rw [e1]; decide)).trans (if_pos e1))
    refine ⟨by unfold ok_L_addDoor; exact ⟨k2, (if_neg (by rw [e1]; decide)).mpr ((if_pos e1).mpr trivial)⟩, ?_⟩
    have hT := (T_addDoor q v hi hs ph fh lh ke).resolve_left (by rw [e1]; decide)
    rw [eL]
    exact ⟨e2, fun w => absurd (show (1 : Int32) = 0 from w) (by decide), (congrArg (fun z => z.1) hT).symm, (congrArg (fun z => z.2.1) hT).symm, (congrArg (fun z => z.2.2) hT).symm⟩
  · have eL := eL.trans ((if_neg (by rw [e1]; decide)).trans ((if_neg (by rw [e1]; decide)).trans (if_pos e1)))
    refine ⟨by unfold ok_L_addDoor; exact ⟨k2, (if_neg (by rw [e1]; decide)).mpr ((if_neg (by rw [e1]; decide)).mpr ((if_pos e1).mpr trivial))⟩, ?_⟩
    have hT := (T_addDoor q v hi hs ph fh lh ke).resolve_left (by rw [e1]; decide)
    rw [eL]
    exact ⟨e2, fun w => absurd (show (2 : Int32) = 0 from w) (by decide), (congrArg (fun z => z.1) hT).symm, (congrArg (fun z => z.2.1) hT).symm, (congrArg (fun z => z.2.2) hT).symm⟩
theorem T_setRule (q : McV) (v : StV) (hi : HiV) (hs : Nat → StV) (dr : Int32) (ph : Int32) (fh : Int32) (lh : Int32) (ke : Int32) : (f_X9_setRule q v hi hs dr ph fh lh ke).1 = "" ∨ (f_X9_setRule q v hi hs dr ph fh lh ke).2.2 = (v, hi, hs) := by
  unfold f_X9_setRule
  try dsimp only
  repeat' split
  all_goals first | exact Or.inl rfl | exact Or.inr rfl
theorem PL_setRule (q : McV) (v : StV) (hi : HiV) (hs : Nat → StV) (dr : Int32) (ph : Int32) (fh : Int32) (lh : Int32) (ke : Int32) (ow : Nat → Int64) (k2 : nx9 hi.2) {b th : Int32} (C : RC ["java/lang/IndexOutOfBoundsException", "java/lang/IllegalArgumentException"] (f_X9_setRule q v hi hs dr ph fh lh ke).1 (f_X9_setRule q v hi hs dr ph fh lh ke).2.1 b th) : ok_L_setRule q v hi hs dr ph fh lh ke ow ∧ th = (f_L_setRule q v hi hs dr ph fh lh ke ow).1 ∧ ((f_L_setRule q v hi hs dr ph fh lh ke ow).1 = 0 → (f_L_setRule q v hi hs dr ph fh lh ke ow).2.2.2.2 (0 : Int32).toNatClampNeg = b.toInt64) ∧ (f_L_setRule q v hi hs dr ph fh lh ke ow).2.1 = (f_X9_setRule q v hi hs dr ph fh lh ke).2.2.1 ∧ (f_L_setRule q v hi hs dr ph fh lh ke ow).2.2.1 = (f_X9_setRule q v hi hs dr ph fh lh ke).2.2.2.1 ∧ (f_L_setRule q v hi hs dr ph fh lh ke ow).2.2.2.1 = (f_X9_setRule q v hi hs dr ph fh lh ke).2.2.2.2 := by
  have eL : (f_L_setRule q v hi hs dr ph fh lh ke ow) = (if (f_X9_setRule q v hi hs dr ph fh lh ke).1 = "" then ((0 : Int32), (f_X9_setRule q v hi hs dr ph fh lh ke).2.2.1, (f_X9_setRule q v hi hs dr ph fh lh ke).2.2.2.1, (f_X9_setRule q v hi hs dr ph fh lh ke).2.2.2.2, (vp_updL ow (0 : Int32).toNatClampNeg (f_X9_setRule q v hi hs dr ph fh lh ke).2.1.toInt64)) else (if (f_X9_setRule q v hi hs dr ph fh lh ke).1 = "java/lang/IndexOutOfBoundsException" then ((1 : Int32), v, hi, hs, ow) else (if (f_X9_setRule q v hi hs dr ph fh lh ke).1 = "java/lang/IllegalArgumentException" then ((2 : Int32), v, hi, hs, ow) else (0, v, hi, hs, ow)))) := rfl
  rcases RC_2 C with ⟨e1, e2, e3⟩ | ⟨e1, e2⟩ | ⟨e1, e2⟩
  · have eL := eL.trans (if_pos e1)
    refine ⟨by unfold ok_L_setRule; exact ⟨k2, (if_pos e1).mpr trivial⟩, ?_⟩
    rw [eL]
    exact ⟨e2, fun _ => (show vp_updL ow (0 : Int32).toNatClampNeg ((f_X9_setRule q v hi hs dr ph fh lh ke).2.1).toInt64 (0 : Int32).toNatClampNeg = _ from (updL_self _ _ _).trans (congrArg Int32.toInt64 e3)), rfl, rfl, rfl⟩
  · have eL := eL.trans ((if_neg (by rw [e1]; decide)).trans (if_pos e1))
    refine ⟨by unfold ok_L_setRule; exact ⟨k2, (if_neg (by rw [e1]; decide)).mpr ((if_pos e1).mpr trivial)⟩, ?_⟩
    have hT := (T_setRule q v hi hs dr ph fh lh ke).resolve_left (by rw [e1]; decide)
    rw [eL]
    exact ⟨e2, fun w => absurd (show (1 : Int32) = 0 from w) (by decide), (congrArg (fun z => z.1) hT).symm, (congrArg (fun z => z.2.1) hT).symm, (congrArg (fun z => z.2.2) hT).symm⟩
  · have eL := eL.trans ((if_neg (by rw [e1]; decide)).trans ((if_neg (by rw [e1]; decide)).trans (if_pos e1)))
    refine ⟨by unfold ok_L_setRule; exact ⟨k2, (if_neg (by rw [e1]; decide)).mpr ((if_neg (by rw [e1]; decide)).mpr ((if_pos e1).mpr trivial))⟩, ?_⟩
    have hT := (T_setRule q v hi hs dr ph fh lh ke).resolve_left (by rw [e1]; decide)
    rw [eL]
    exact ⟨e2, fun w => absurd (show (2 : Int32) = 0 from w) (by decide), (congrArg (fun z => z.1) hT).symm, (congrArg (fun z => z.2.1) hT).symm, (congrArg (fun z => z.2.2) hT).symm⟩
theorem T_addException (q : McV) (v : StV) (hi : HiV) (hs : Nat → StV) (dr : Int32) (dy : Int32) (op : Int32) : (f_X9_addException q v hi hs dr dy op).1 = "" ∨ (f_X9_addException q v hi hs dr dy op).2.2 = (v, hi, hs) := by
  unfold f_X9_addException
  try dsimp only
  repeat' split
  all_goals first | exact Or.inl rfl | exact Or.inr rfl
theorem PL_addException (q : McV) (v : StV) (hi : HiV) (hs : Nat → StV) (dr : Int32) (dy : Int32) (op : Int32) (ow : Nat → Int64) (k2 : nx9 hi.2) {b th : Int32} (C : RC ["java/lang/IndexOutOfBoundsException", "java/lang/IllegalArgumentException", "java/lang/UnsupportedOperationException", "java/lang/IllegalStateException"] (f_X9_addException q v hi hs dr dy op).1 (f_X9_addException q v hi hs dr dy op).2.1 b th) : ok_L_addException q v hi hs dr dy op ow ∧ th = (f_L_addException q v hi hs dr dy op ow).1 ∧ ((f_L_addException q v hi hs dr dy op ow).1 = 0 → (f_L_addException q v hi hs dr dy op ow).2.2.2.2 (0 : Int32).toNatClampNeg = b.toInt64) ∧ (f_L_addException q v hi hs dr dy op ow).2.1 = (f_X9_addException q v hi hs dr dy op).2.2.1 ∧ (f_L_addException q v hi hs dr dy op ow).2.2.1 = (f_X9_addException q v hi hs dr dy op).2.2.2.1 ∧ (f_L_addException q v hi hs dr dy op ow).2.2.2.1 = (f_X9_addException q v hi hs dr dy op).2.2.2.2 := by
  have eL : (f_L_addException q v hi hs dr dy op ow) = (if (f_X9_addException q v hi hs dr dy op).1 = "" then ((0 : Int32), (f_X9_addException q v hi hs dr dy op).2.2.1, (f_X9_addException q v hi hs dr dy op).2.2.2.1, (f_X9_addException q v hi hs dr dy op).2.2.2.2, (vp_updL ow (0 : Int32).toNatClampNeg (f_X9_addException q v hi hs dr dy op).2.1.toInt64)) else (if (f_X9_addException q v hi hs dr dy op).1 = "java/lang/IndexOutOfBoundsException" then ((1 : Int32), v, hi, hs, ow) else (if (f_X9_addException q v hi hs dr dy op).1 = "java/lang/IllegalArgumentException" then ((2 : Int32), v, hi, hs, ow) else (if (f_X9_addException q v hi hs dr dy op).1 = "java/lang/UnsupportedOperationException" then ((3 : Int32), v, hi, hs, ow) else (if (f_X9_addException q v hi hs dr dy op).1 = "java/lang/IllegalStateException" then ((4 : Int32), v, hi, hs, ow) else (0, v, hi, hs, ow)))))) := rfl
  rcases RC_4 C with ⟨e1, e2, e3⟩ | ⟨e1, e2⟩ | ⟨e1, e2⟩ | ⟨e1, e2⟩ | ⟨e1, e2⟩
  · have eL := eL.trans (if_pos e1)
    refine ⟨by unfold ok_L_addException; exact ⟨k2, (if_pos e1).mpr trivial⟩, ?_⟩
    rw [eL]
    exact ⟨e2, fun _ => (show vp_updL ow (0 : Int32).toNatClampNeg ((f_X9_addException q v hi hs dr dy op).2.1).toInt64 (0 : Int32).toNatClampNeg = _ from (updL_self _ _ _).trans (congrArg Int32.toInt64 e3)), rfl, rfl, rfl⟩
  · have eL := eL.trans ((if_neg (by rw [e1]; decide)).trans (if_pos e1))
    refine ⟨by unfold ok_L_addException; exact ⟨k2, (if_neg (by rw [e1]; decide)).mpr ((if_pos e1).mpr trivial)⟩, ?_⟩
    have hT := (T_addException q v hi hs dr dy op).resolve_left (by rw [e1]; decide)
    rw [eL]
    exact ⟨e2, fun w => absurd (show (1 : Int32) = 0 from w) (by decide), (congrArg (fun z => z.1) hT).symm, (congrArg (fun z => z.2.1) hT).symm, (congrArg (fun z => z.2.2) hT).symm⟩
  · have eL := eL.trans ((if_neg (by rw [e1]; decide)).trans ((if_neg (by rw [e1]; decide)).trans (if_pos e1)))
    refine ⟨by unfold ok_L_addException; exact ⟨k2, (if_neg (by rw [e1]; decide)).mpr ((if_neg (by rw [e1]; decide)).mpr ((if_pos e1).mpr trivial))⟩, ?_⟩
    have hT := (T_addException q v hi hs dr dy op).resolve_left (by rw [e1]; decide)
    rw [eL]
    exact ⟨e2, fun w => absurd (show (2 : Int32) = 0 from w) (by decide), (congrArg (fun z => z.1) hT).symm, (congrArg (fun z => z.2.1) hT).symm, (congrArg (fun z => z.2.2) hT).symm⟩
  · have eL := eL.trans ((if_neg (by rw [e1]; decide)).trans ((if_neg (by rw [e1]; decide)).trans ((if_neg (by rw [e1]; decide)).trans (if_pos e1))))
    refine ⟨by unfold ok_L_addException; exact ⟨k2, (if_neg (by rw [e1]; decide)).mpr ((if_neg (by rw [e1]; decide)).mpr ((if_neg (by rw [e1]; decide)).mpr ((if_pos e1).mpr trivial)))⟩, ?_⟩
    have hT := (T_addException q v hi hs dr dy op).resolve_left (by rw [e1]; decide)
    rw [eL]
    exact ⟨e2, fun w => absurd (show (3 : Int32) = 0 from w) (by decide), (congrArg (fun z => z.1) hT).symm, (congrArg (fun z => z.2.1) hT).symm, (congrArg (fun z => z.2.2) hT).symm⟩
  · have eL := eL.trans ((if_neg (by rw [e1]; decide)).trans ((if_neg (by rw [e1]; decide)).trans ((if_neg (by rw [e1]; decide)).trans ((if_neg (by rw [e1]; decide)).trans (if_pos e1)))))
    refine ⟨by unfold ok_L_addException; exact ⟨k2, (if_neg (by rw [e1]; decide)).mpr ((if_neg (by rw [e1]; decide)).mpr ((if_neg (by rw [e1]; decide)).mpr ((if_neg (by rw [e1]; decide)).mpr ((if_pos e1).mpr trivial))))⟩, ?_⟩
    have hT := (T_addException q v hi hs dr dy op).resolve_left (by rw [e1]; decide)
    rw [eL]
    exact ⟨e2, fun w => absurd (show (4 : Int32) = 0 from w) (by decide), (congrArg (fun z => z.1) hT).symm, (congrArg (fun z => z.2.1) hT).symm, (congrArg (fun z => z.2.2) hT).symm⟩
theorem T_liftException (q : McV) (v : StV) (hi : HiV) (hs : Nat → StV) (dr : Int32) (dy : Int32) : (f_X9_liftException q v hi hs dr dy).1 = "" ∨ (f_X9_liftException q v hi hs dr dy).2.2 = (v, hi, hs) := by
  unfold f_X9_liftException
  try dsimp only
  repeat' split
  all_goals first | exact Or.inl rfl | exact Or.inr rfl
theorem PL_liftException (q : McV) (v : StV) (hi : HiV) (hs : Nat → StV) (dr : Int32) (dy : Int32) (ow : Nat → Int64) (k2 : nx9 hi.2) {b th : Int32} (C : RC ["java/lang/IndexOutOfBoundsException", "java/util/NoSuchElementException"] (f_X9_liftException q v hi hs dr dy).1 (f_X9_liftException q v hi hs dr dy).2.1 b th) : ok_L_liftException q v hi hs dr dy ow ∧ th = (f_L_liftException q v hi hs dr dy ow).1 ∧ ((f_L_liftException q v hi hs dr dy ow).1 = 0 → (f_L_liftException q v hi hs dr dy ow).2.2.2.2 (0 : Int32).toNatClampNeg = (if b = (0 : Int32) then (0 : Int64) else 1)) ∧ (f_L_liftException q v hi hs dr dy ow).2.1 = (f_X9_liftException q v hi hs dr dy).2.2.1 ∧ (f_L_liftException q v hi hs dr dy ow).2.2.1 = (f_X9_liftException q v hi hs dr dy).2.2.2.1 ∧ (f_L_liftException q v hi hs dr dy ow).2.2.2.1 = (f_X9_liftException q v hi hs dr dy).2.2.2.2 := by
  have eL : (f_L_liftException q v hi hs dr dy ow) = (if (f_X9_liftException q v hi hs dr dy).1 = "" then (if (f_X9_liftException q v hi hs dr dy).2.1 = (0 : Int32) then ((0 : Int32), (f_X9_liftException q v hi hs dr dy).2.2.1, (f_X9_liftException q v hi hs dr dy).2.2.2.1, (f_X9_liftException q v hi hs dr dy).2.2.2.2, (vp_updL ow (0 : Int32).toNatClampNeg (0 : Int64))) else ((0 : Int32), (f_X9_liftException q v hi hs dr dy).2.2.1, (f_X9_liftException q v hi hs dr dy).2.2.2.1, (f_X9_liftException q v hi hs dr dy).2.2.2.2, (vp_updL ow (0 : Int32).toNatClampNeg (1 : Int64)))) else (if (f_X9_liftException q v hi hs dr dy).1 = "java/lang/IndexOutOfBoundsException" then ((1 : Int32), v, hi, hs, ow) else (if (f_X9_liftException q v hi hs dr dy).1 = "java/util/NoSuchElementException" then ((2 : Int32), v, hi, hs, ow) else (0, v, hi, hs, ow)))) := rfl
  rcases RC_2 C with ⟨e1, e2, e3⟩ | ⟨e1, e2⟩ | ⟨e1, e2⟩
  · have eL := eL.trans (if_pos e1)
    refine ⟨by unfold ok_L_liftException; exact ⟨k2, (if_pos e1).mpr trivial⟩, ?_⟩
    rw [e3] at eL
    by_cases f : b = 0
    · have eL := eL.trans (if_pos f)
      rw [eL]
      exact ⟨e2, fun _ => (show vp_updL ow (0 : Int32).toNatClampNeg (0 : Int64) (0 : Int32).toNatClampNeg = _ from (updL_self _ _ _).trans (if_pos f).symm), rfl, rfl, rfl⟩
    · have eL := eL.trans (if_neg f)
      rw [eL]
      exact ⟨e2, fun _ => (show vp_updL ow (0 : Int32).toNatClampNeg (1 : Int64) (0 : Int32).toNatClampNeg = _ from (updL_self _ _ _).trans (if_neg f).symm), rfl, rfl, rfl⟩
  · have eL := eL.trans ((if_neg (by rw [e1]; decide)).trans (if_pos e1))
    refine ⟨by unfold ok_L_liftException; exact ⟨k2, (if_neg (by rw [e1]; decide)).mpr ((if_pos e1).mpr trivial)⟩, ?_⟩
    have hT := (T_liftException q v hi hs dr dy).resolve_left (by rw [e1]; decide)
    rw [eL]
    exact ⟨e2, fun w => absurd (show (1 : Int32) = 0 from w) (by decide), (congrArg (fun z => z.1) hT).symm, (congrArg (fun z => z.2.1) hT).symm, (congrArg (fun z => z.2.2) hT).symm⟩
  · have eL := eL.trans ((if_neg (by rw [e1]; decide)).trans ((if_neg (by rw [e1]; decide)).trans (if_pos e1)))
    refine ⟨by unfold ok_L_liftException; exact ⟨k2, (if_neg (by rw [e1]; decide)).mpr ((if_neg (by rw [e1]; decide)).mpr ((if_pos e1).mpr trivial))⟩, ?_⟩
    have hT := (T_liftException q v hi hs dr dy).resolve_left (by rw [e1]; decide)
    rw [eL]
    exact ⟨e2, fun w => absurd (show (2 : Int32) = 0 from w) (by decide), (congrArg (fun z => z.1) hT).symm, (congrArg (fun z => z.2.1) hT).symm, (congrArg (fun z => z.2.2) hT).symm⟩
theorem T_setCycle (q : McV) (v : StV) (hi : HiV) (hs : Nat → StV) (dy : Int32) : (f_X9_setCycle q v hi hs dy).1 = "" ∨ (f_X9_setCycle q v hi hs dy).2.2 = (v, hi, hs) := by
  unfold f_X9_setCycle
  try dsimp only
  repeat' split
  all_goals first | exact Or.inl rfl | exact Or.inr rfl
theorem PL_setCycle (q : McV) (v : StV) (hi : HiV) (hs : Nat → StV) (dy : Int32) (ow : Nat → Int64) (k2 : nx9 hi.2) {b th : Int32} (C : RC ["java/lang/IllegalArgumentException"] (f_X9_setCycle q v hi hs dy).1 (f_X9_setCycle q v hi hs dy).2.1 b th) : ok_L_setCycle q v hi hs dy ow ∧ th = (f_L_setCycle q v hi hs dy ow).1 ∧ ((f_L_setCycle q v hi hs dy ow).1 = 0 → (f_L_setCycle q v hi hs dy ow).2.2.2.2 (0 : Int32).toNatClampNeg = b.toInt64) ∧ (f_L_setCycle q v hi hs dy ow).2.1 = (f_X9_setCycle q v hi hs dy).2.2.1 ∧ (f_L_setCycle q v hi hs dy ow).2.2.1 = (f_X9_setCycle q v hi hs dy).2.2.2.1 ∧ (f_L_setCycle q v hi hs dy ow).2.2.2.1 = (f_X9_setCycle q v hi hs dy).2.2.2.2 := by
  have eL : (f_L_setCycle q v hi hs dy ow) = (if (f_X9_setCycle q v hi hs dy).1 = "" then ((0 : Int32), (f_X9_setCycle q v hi hs dy).2.2.1, (f_X9_setCycle q v hi hs dy).2.2.2.1, (f_X9_setCycle q v hi hs dy).2.2.2.2, (vp_updL ow (0 : Int32).toNatClampNeg (f_X9_setCycle q v hi hs dy).2.1.toInt64)) else (if (f_X9_setCycle q v hi hs dy).1 = "java/lang/IllegalArgumentException" then ((1 : Int32), v, hi, hs, ow) else (0, v, hi, hs, ow))) := rfl
  rcases RC_1 C with ⟨e1, e2, e3⟩ | ⟨e1, e2⟩
  · have eL := eL.trans (if_pos e1)
    refine ⟨by unfold ok_L_setCycle; exact ⟨k2, (if_pos e1).mpr trivial⟩, ?_⟩
    rw [eL]
    exact ⟨e2, fun _ => (show vp_updL ow (0 : Int32).toNatClampNeg ((f_X9_setCycle q v hi hs dy).2.1).toInt64 (0 : Int32).toNatClampNeg = _ from (updL_self _ _ _).trans (congrArg Int32.toInt64 e3)), rfl, rfl, rfl⟩
  · have eL := eL.trans ((if_neg (by rw [e1]; decide)).trans (if_pos e1))
    refine ⟨by unfold ok_L_setCycle; exact ⟨k2, (if_neg (by rw [e1]; decide)).mpr ((if_pos e1).mpr trivial)⟩, ?_⟩
    have hT := (T_setCycle q v hi hs dy).resolve_left (by rw [e1]; decide)
    rw [eL]
    exact ⟨e2, fun w => absurd (show (1 : Int32) = 0 from w) (by decide), (congrArg (fun z => z.1) hT).symm, (congrArg (fun z => z.2.1) hT).symm, (congrArg (fun z => z.2.2) hT).symm⟩
theorem PL_phasesOf (q : McV) (v : StV) (x : Int32) (ow : Nat → Int64) {b th : Int32} (C : RC ["java/lang/IndexOutOfBoundsException"] (f_X9_phasesOf q v x).1 (f_X9_phasesOf q v x).2 b th) : ok_L_phasesOf q v x ow ∧ th = (f_L_phasesOf q v x ow).1 ∧ ((f_L_phasesOf q v x ow).1 = 0 → (f_L_phasesOf q v x ow).2 (0 : Int32).toNatClampNeg = b.toInt64) := by
  have eL : (f_L_phasesOf q v x ow) = (if (f_X9_phasesOf q v x).1 = "" then ((0 : Int32), (vp_updL ow (0 : Int32).toNatClampNeg (((f_X9_phasesOf q v x).2).toInt64))) else (if (f_X9_phasesOf q v x).1 = "java/lang/IndexOutOfBoundsException" then ((1 : Int32), ow) else (0, ow))) := rfl
  rcases RC_1 C with ⟨e1, e2, e3⟩ | ⟨e1, e2⟩
  · have eL := eL.trans (if_pos e1)
    refine ⟨by unfold ok_L_phasesOf; exact (if_pos e1).mpr trivial, ?_⟩
    rw [eL]
    exact ⟨e2, fun _ => (show vp_updL ow (0 : Int32).toNatClampNeg ((f_X9_phasesOf q v x).2).toInt64 (0 : Int32).toNatClampNeg = _ from (updL_self _ _ _).trans (congrArg Int32.toInt64 e3))⟩
  · have eL := eL.trans ((if_neg (by rw [e1]; decide)).trans (if_pos e1))
    refine ⟨by unfold ok_L_phasesOf; exact (if_neg (by rw [e1]; decide)).mpr ((if_pos e1).mpr trivial), ?_⟩
    rw [eL]
    exact ⟨e2, fun w => absurd (show (1 : Int32) = 0 from w) (by decide)⟩
theorem PL_keyOf (q : McV) (v : StV) (x : Int32) (ow : Nat → Int64) {b th : Int32} (C : RC ["java/lang/IndexOutOfBoundsException"] (f_X9_keyOf q v x).1 (f_X9_keyOf q v x).2 b th) : ok_L_keyOf q v x ow ∧ th = (f_L_keyOf q v x ow).1 ∧ ((f_L_keyOf q v x ow).1 = 0 → (f_L_keyOf q v x ow).2 (0 : Int32).toNatClampNeg = b.toInt64) := by
  have eL : (f_L_keyOf q v x ow) = (if (f_X9_keyOf q v x).1 = "" then ((0 : Int32), (vp_updL ow (0 : Int32).toNatClampNeg (((f_X9_keyOf q v x).2).toInt64))) else (if (f_X9_keyOf q v x).1 = "java/lang/IndexOutOfBoundsException" then ((1 : Int32), ow) else (0, ow))) := rfl
  rcases RC_1 C with ⟨e1, e2, e3⟩ | ⟨e1, e2⟩
  · have eL := eL.trans (if_pos e1)
    refine ⟨by unfold ok_L_keyOf; exact (if_pos e1).mpr trivial, ?_⟩
    rw [eL]
    exact ⟨e2, fun _ => (show vp_updL ow (0 : Int32).toNatClampNeg ((f_X9_keyOf q v x).2).toInt64 (0 : Int32).toNatClampNeg = _ from (updL_self _ _ _).trans (congrArg Int32.toInt64 e3))⟩
  · have eL := eL.trans ((if_neg (by rw [e1]; decide)).trans (if_pos e1))
    refine ⟨by unfold ok_L_keyOf; exact (if_neg (by rw [e1]; decide)).mpr ((if_pos e1).mpr trivial), ?_⟩
    rw [eL]
    exact ⟨e2, fun w => absurd (show (1 : Int32) = 0 from w) (by decide)⟩
theorem PL_isHourOf (q : McV) (v : StV) (x : Int32) (y : Int32) (ow : Nat → Int64) {b th : Int32} (C : RC ["java/lang/IndexOutOfBoundsException", "java/lang/IllegalArgumentException"] (f_X9_isHourOf q v x y).1 (f_X9_isHourOf q v x y).2 b th) : ok_L_isHourOf q v x y ow ∧ th = (f_L_isHourOf q v x y ow).1 ∧ ((f_L_isHourOf q v x y ow).1 = 0 → (f_L_isHourOf q v x y ow).2 (0 : Int32).toNatClampNeg = (if b = (0 : Int32) then (0 : Int64) else 1)) := by
  have eL : (f_L_isHourOf q v x y ow) = (if (f_X9_isHourOf q v x y).1 = "" then (if (f_X9_isHourOf q v x y).2 = (0 : Int32) then ((0 : Int32), (vp_updL ow (0 : Int32).toNatClampNeg (0 : Int64))) else ((0 : Int32), (vp_updL ow (0 : Int32).toNatClampNeg (1 : Int64)))) else (if (f_X9_isHourOf q v x y).1 = "java/lang/IndexOutOfBoundsException" then ((1 : Int32), ow) else (if (f_X9_isHourOf q v x y).1 = "java/lang/IllegalArgumentException" then ((2 : Int32), ow) else (0, ow)))) := rfl
  rcases RC_2 C with ⟨e1, e2, e3⟩ | ⟨e1, e2⟩ | ⟨e1, e2⟩
  · have eL := eL.trans (if_pos e1)
    refine ⟨by unfold ok_L_isHourOf; exact (if_pos e1).mpr trivial, ?_⟩
    rw [e3] at eL
    by_cases f : b = 0
    · have eL := eL.trans (if_pos f)
      rw [eL]
      exact ⟨e2, fun _ => (show vp_updL ow (0 : Int32).toNatClampNeg (0 : Int64) (0 : Int32).toNatClampNeg = _ from (updL_self _ _ _).trans (if_pos f).symm)⟩
    · have eL := eL.trans (if_neg f)
      rw [eL]
      exact ⟨e2, fun _ => (show vp_updL ow (0 : Int32).toNatClampNeg (1 : Int64) (0 : Int32).toNatClampNeg = _ from (updL_self _ _ _).trans (if_neg f).symm)⟩
  · have eL := eL.trans ((if_neg (by rw [e1]; decide)).trans (if_pos e1))
    refine ⟨by unfold ok_L_isHourOf; exact (if_neg (by rw [e1]; decide)).mpr ((if_pos e1).mpr trivial), ?_⟩
    rw [eL]
    exact ⟨e2, fun w => absurd (show (1 : Int32) = 0 from w) (by decide)⟩
  · have eL := eL.trans ((if_neg (by rw [e1]; decide)).trans ((if_neg (by rw [e1]; decide)).trans (if_pos e1)))
    refine ⟨by unfold ok_L_isHourOf; exact (if_neg (by rw [e1]; decide)).mpr ((if_neg (by rw [e1]; decide)).mpr ((if_pos e1).mpr trivial)), ?_⟩
    rw [eL]
    exact ⟨e2, fun w => absurd (show (2 : Int32) = 0 from w) (by decide)⟩
theorem PL_hourCount (q : McV) (v : StV) (x : Int32) (ow : Nat → Int64) {b th : Int32} (C : RC ["java/lang/IndexOutOfBoundsException"] (f_X9_hourCount q v x).1 (f_X9_hourCount q v x).2 b th) : ok_L_hourCount q v x ow ∧ th = (f_L_hourCount q v x ow).1 ∧ ((f_L_hourCount q v x ow).1 = 0 → (f_L_hourCount q v x ow).2 (0 : Int32).toNatClampNeg = b.toInt64) := by
  have eL : (f_L_hourCount q v x ow) = (if (f_X9_hourCount q v x).1 = "" then ((0 : Int32), (vp_updL ow (0 : Int32).toNatClampNeg (((f_X9_hourCount q v x).2).toInt64))) else (if (f_X9_hourCount q v x).1 = "java/lang/IndexOutOfBoundsException" then ((1 : Int32), ow) else (0, ow))) := rfl
  rcases RC_1 C with ⟨e1, e2, e3⟩ | ⟨e1, e2⟩
  · have eL := eL.trans (if_pos e1)
    refine ⟨by unfold ok_L_hourCount; exact (if_pos e1).mpr trivial, ?_⟩
    rw [eL]
    exact ⟨e2, fun _ => (show vp_updL ow (0 : Int32).toNatClampNeg ((f_X9_hourCount q v x).2).toInt64 (0 : Int32).toNatClampNeg = _ from (updL_self _ _ _).trans (congrArg Int32.toInt64 e3))⟩
  · have eL := eL.trans ((if_neg (by rw [e1]; decide)).trans (if_pos e1))
    refine ⟨by unfold ok_L_hourCount; exact (if_neg (by rw [e1]; decide)).mpr ((if_pos e1).mpr trivial), ?_⟩
    rw [eL]
    exact ⟨e2, fun w => absurd (show (1 : Int32) = 0 from w) (by decide)⟩
theorem PL_hasException (q : McV) (v : StV) (x : Int32) (y : Int32) (ow : Nat → Int64) {b th : Int32} (C : RC ["java/lang/IndexOutOfBoundsException"] (f_X9_hasException q v x y).1 (f_X9_hasException q v x y).2 b th) : ok_L_hasException q v x y ow ∧ th = (f_L_hasException q v x y ow).1 ∧ ((f_L_hasException q v x y ow).1 = 0 → (f_L_hasException q v x y ow).2 (0 : Int32).toNatClampNeg = (if b = (0 : Int32) then (0 : Int64) else 1)) := by
  have eL : (f_L_hasException q v x y ow) = (if (f_X9_hasException q v x y).1 = "" then (if (f_X9_hasException q v x y).2 = (0 : Int32) then ((0 : Int32), (vp_updL ow (0 : Int32).toNatClampNeg (0 : Int64))) else ((0 : Int32), (vp_updL ow (0 : Int32).toNatClampNeg (1 : Int64)))) else (if (f_X9_hasException q v x y).1 = "java/lang/IndexOutOfBoundsException" then ((1 : Int32), ow) else (0, ow))) := rfl
  rcases RC_1 C with ⟨e1, e2, e3⟩ | ⟨e1, e2⟩
  · have eL := eL.trans (if_pos e1)
    refine ⟨by unfold ok_L_hasException; exact (if_pos e1).mpr trivial, ?_⟩
    rw [e3] at eL
    by_cases f : b = 0
    · have eL := eL.trans (if_pos f)
      rw [eL]
      exact ⟨e2, fun _ => (show vp_updL ow (0 : Int32).toNatClampNeg (0 : Int64) (0 : Int32).toNatClampNeg = _ from (updL_self _ _ _).trans (if_pos f).symm)⟩
    · have eL := eL.trans (if_neg f)
      rw [eL]
      exact ⟨e2, fun _ => (show vp_updL ow (0 : Int32).toNatClampNeg (1 : Int64) (0 : Int32).toNatClampNeg = _ from (updL_self _ _ _).trans (if_neg f).symm)⟩
  · have eL := eL.trans ((if_neg (by rw [e1]; decide)).trans (if_pos e1))
    refine ⟨by unfold ok_L_hasException; exact (if_neg (by rw [e1]; decide)).mpr ((if_pos e1).mpr trivial), ?_⟩
    rw [eL]
    exact ⟨e2, fun w => absurd (show (1 : Int32) = 0 from w) (by decide)⟩
theorem PL_exceptionDoor (q : McV) (v : StV) (x : Int32) (ow : Nat → Int64) {b th : Int32} (C : RC ["java/util/NoSuchElementException"] (f_X9_exceptionDoor q v x).1 (f_X9_exceptionDoor q v x).2 b th) : ok_L_exceptionDoor q v x ow ∧ th = (f_L_exceptionDoor q v x ow).1 ∧ ((f_L_exceptionDoor q v x ow).1 = 0 → (f_L_exceptionDoor q v x ow).2 (0 : Int32).toNatClampNeg = b.toInt64) := by
  have eL : (f_L_exceptionDoor q v x ow) = (if (f_X9_exceptionDoor q v x).1 = "" then ((0 : Int32), (vp_updL ow (0 : Int32).toNatClampNeg (((f_X9_exceptionDoor q v x).2).toInt64))) else (if (f_X9_exceptionDoor q v x).1 = "java/util/NoSuchElementException" then ((1 : Int32), ow) else (0, ow))) := rfl
  rcases RC_1 C with ⟨e1, e2, e3⟩ | ⟨e1, e2⟩
  · have eL := eL.trans (if_pos e1)
    refine ⟨by unfold ok_L_exceptionDoor; exact (if_pos e1).mpr trivial, ?_⟩
    rw [eL]
    exact ⟨e2, fun _ => (show vp_updL ow (0 : Int32).toNatClampNeg ((f_X9_exceptionDoor q v x).2).toInt64 (0 : Int32).toNatClampNeg = _ from (updL_self _ _ _).trans (congrArg Int32.toInt64 e3))⟩
  · have eL := eL.trans ((if_neg (by rw [e1]; decide)).trans (if_pos e1))
    refine ⟨by unfold ok_L_exceptionDoor; exact (if_neg (by rw [e1]; decide)).mpr ((if_pos e1).mpr trivial), ?_⟩
    rw [eL]
    exact ⟨e2, fun w => absurd (show (1 : Int32) = 0 from w) (by decide)⟩
theorem PL_exceptionDay (q : McV) (v : StV) (x : Int32) (ow : Nat → Int64) {b th : Int32} (C : RC ["java/util/NoSuchElementException"] (f_X9_exceptionDay q v x).1 (f_X9_exceptionDay q v x).2 b th) : ok_L_exceptionDay q v x ow ∧ th = (f_L_exceptionDay q v x ow).1 ∧ ((f_L_exceptionDay q v x ow).1 = 0 → (f_L_exceptionDay q v x ow).2 (0 : Int32).toNatClampNeg = b.toInt64) := by
  have eL : (f_L_exceptionDay q v x ow) = (if (f_X9_exceptionDay q v x).1 = "" then ((0 : Int32), (vp_updL ow (0 : Int32).toNatClampNeg (((f_X9_exceptionDay q v x).2).toInt64))) else (if (f_X9_exceptionDay q v x).1 = "java/util/NoSuchElementException" then ((1 : Int32), ow) else (0, ow))) := rfl
  rcases RC_1 C with ⟨e1, e2, e3⟩ | ⟨e1, e2⟩
  · have eL := eL.trans (if_pos e1)
    refine ⟨by unfold ok_L_exceptionDay; exact (if_pos e1).mpr trivial, ?_⟩
    rw [eL]
    exact ⟨e2, fun _ => (show vp_updL ow (0 : Int32).toNatClampNeg ((f_X9_exceptionDay q v x).2).toInt64 (0 : Int32).toNatClampNeg = _ from (updL_self _ _ _).trans (congrArg Int32.toInt64 e3))⟩
  · have eL := eL.trans ((if_neg (by rw [e1]; decide)).trans (if_pos e1))
    refine ⟨by unfold ok_L_exceptionDay; exact (if_neg (by rw [e1]; decide)).mpr ((if_pos e1).mpr trivial), ?_⟩
    rw [eL]
    exact ⟨e2, fun w => absurd (show (1 : Int32) = 0 from w) (by decide)⟩
theorem T_addPerson (q : McV) (v : StV) (hi : HiV) (hs : Nat → StV) : (f_X9_addPerson q v hi hs).1 = "" ∨ (f_X9_addPerson q v hi hs).2.2 = (v, hi, hs) := by
  unfold f_X9_addPerson
  try dsimp only
  repeat' split
  all_goals first | exact Or.inl rfl | exact Or.inr rfl
theorem PL_addPerson (q : McV) (v : StV) (hi : HiV) (hs : Nat → StV) (ow : Nat → Int64) (k2 : nx9 hi.2) {b th : Int32} (C : RC ["java/lang/IllegalStateException"] (f_X9_addPerson q v hi hs).1 (f_X9_addPerson q v hi hs).2.1 b th) : ok_L_addPerson q v hi hs ow ∧ th = (f_L_addPerson q v hi hs ow).1 ∧ ((f_L_addPerson q v hi hs ow).1 = 0 → (f_L_addPerson q v hi hs ow).2.2.2.2 (0 : Int32).toNatClampNeg = b.toInt64) ∧ (f_L_addPerson q v hi hs ow).2.1 = (f_X9_addPerson q v hi hs).2.2.1 ∧ (f_L_addPerson q v hi hs ow).2.2.1 = (f_X9_addPerson q v hi hs).2.2.2.1 ∧ (f_L_addPerson q v hi hs ow).2.2.2.1 = (f_X9_addPerson q v hi hs).2.2.2.2 := by
  have eL : (f_L_addPerson q v hi hs ow) = (if (f_X9_addPerson q v hi hs).1 = "" then ((0 : Int32), (f_X9_addPerson q v hi hs).2.2.1, (f_X9_addPerson q v hi hs).2.2.2.1, (f_X9_addPerson q v hi hs).2.2.2.2, (vp_updL ow (0 : Int32).toNatClampNeg (f_X9_addPerson q v hi hs).2.1.toInt64)) else (if (f_X9_addPerson q v hi hs).1 = "java/lang/IllegalStateException" then ((1 : Int32), v, hi, hs, ow) else (0, v, hi, hs, ow))) := rfl
  rcases RC_1 C with ⟨e1, e2, e3⟩ | ⟨e1, e2⟩
  · have eL := eL.trans (if_pos e1)
    refine ⟨by unfold ok_L_addPerson; exact ⟨k2, (if_pos e1).mpr trivial⟩, ?_⟩
    rw [eL]
    exact ⟨e2, fun _ => (show vp_updL ow (0 : Int32).toNatClampNeg ((f_X9_addPerson q v hi hs).2.1).toInt64 (0 : Int32).toNatClampNeg = _ from (updL_self _ _ _).trans (congrArg Int32.toInt64 e3)), rfl, rfl, rfl⟩
  · have eL := eL.trans ((if_neg (by rw [e1]; decide)).trans (if_pos e1))
    refine ⟨by unfold ok_L_addPerson; exact ⟨k2, (if_neg (by rw [e1]; decide)).mpr ((if_pos e1).mpr trivial)⟩, ?_⟩
    have hT := (T_addPerson q v hi hs).resolve_left (by rw [e1]; decide)
    rw [eL]
    exact ⟨e2, fun w => absurd (show (1 : Int32) = 0 from w) (by decide), (congrArg (fun z => z.1) hT).symm, (congrArg (fun z => z.2.1) hT).symm, (congrArg (fun z => z.2.2) hT).symm⟩
theorem T_giveKey (q : McV) (v : StV) (hi : HiV) (hs : Nat → StV) (ps : Int32) (ke : Int32) : (f_X9_giveKey q v hi hs ps ke).1 = "" ∨ (f_X9_giveKey q v hi hs ps ke).2.2 = (v, hi, hs) := by
  unfold f_X9_giveKey
  try dsimp only
  repeat' split
  all_goals first | exact Or.inl rfl | exact Or.inr rfl
theorem PL_giveKey (q : McV) (v : StV) (hi : HiV) (hs : Nat → StV) (ps : Int32) (ke : Int32) (ow : Nat → Int64) (k2 : nx9 hi.2) {b th : Int32} (C : RC ["java/lang/IndexOutOfBoundsException", "java/lang/IllegalArgumentException", "java/lang/IllegalStateException"] (f_X9_giveKey q v hi hs ps ke).1 (f_X9_giveKey q v hi hs ps ke).2.1 b th) : ok_L_giveKey q v hi hs ps ke ow ∧ th = (f_L_giveKey q v hi hs ps ke ow).1 ∧ ((f_L_giveKey q v hi hs ps ke ow).1 = 0 → (f_L_giveKey q v hi hs ps ke ow).2.2.2.2 (0 : Int32).toNatClampNeg = b.toInt64) ∧ (f_L_giveKey q v hi hs ps ke ow).2.1 = (f_X9_giveKey q v hi hs ps ke).2.2.1 ∧ (f_L_giveKey q v hi hs ps ke ow).2.2.1 = (f_X9_giveKey q v hi hs ps ke).2.2.2.1 ∧ (f_L_giveKey q v hi hs ps ke ow).2.2.2.1 = (f_X9_giveKey q v hi hs ps ke).2.2.2.2 := by
  have eL : (f_L_giveKey q v hi hs ps ke ow) = (if (f_X9_giveKey q v hi hs ps ke).1 = "" then ((0 : Int32), (f_X9_giveKey q v hi hs ps ke).2.2.1, (f_X9_giveKey q v hi hs ps ke).2.2.2.1, (f_X9_giveKey q v hi hs ps ke).2.2.2.2, (vp_updL ow (0 : Int32).toNatClampNeg (f_X9_giveKey q v hi hs ps ke).2.1.toInt64)) else (if (f_X9_giveKey q v hi hs ps ke).1 = "java/lang/IndexOutOfBoundsException" then ((1 : Int32), v, hi, hs, ow) else (if (f_X9_giveKey q v hi hs ps ke).1 = "java/lang/IllegalArgumentException" then ((2 : Int32), v, hi, hs, ow) else (if (f_X9_giveKey q v hi hs ps ke).1 = "java/lang/IllegalStateException" then ((3 : Int32), v, hi, hs, ow) else (0, v, hi, hs, ow))))) := rfl
  rcases RC_3 C with ⟨e1, e2, e3⟩ | ⟨e1, e2⟩ | ⟨e1, e2⟩ | ⟨e1, e2⟩
  · have eL := eL.trans (if_pos e1)
    refine ⟨by unfold ok_L_giveKey; exact ⟨k2, (if_pos e1).mpr trivial⟩, ?_⟩
    rw [eL]
    exact ⟨e2, fun _ => (show vp_updL ow (0 : Int32).toNatClampNeg ((f_X9_giveKey q v hi hs ps ke).2.1).toInt64 (0 : Int32).toNatClampNeg = _ from (updL_self _ _ _).trans (congrArg Int32.toInt64 e3)), rfl, rfl, rfl⟩
  · have eL := eL.trans ((if_neg (by rw [e1]; decide)).trans (if_pos e1))
    refine ⟨by unfold ok_L_giveKey; exact ⟨k2, (if_neg (by rw [e1]; decide)).mpr ((if_pos e1).mpr trivial)⟩, ?_⟩
    have hT := (T_giveKey q v hi hs ps ke).resolve_left (by rw [e1]; decide)
    rw [eL]
    exact ⟨e2, fun w => absurd (show (1 : Int32) = 0 from w) (by decide), (congrArg (fun z => z.1) hT).symm, (congrArg (fun z => z.2.1) hT).symm, (congrArg (fun z => z.2.2) hT).symm⟩
  · have eL := eL.trans ((if_neg (by rw [e1]; decide)).trans ((if_neg (by rw [e1]; decide)).trans (if_pos e1)))
    refine ⟨by unfold ok_L_giveKey; exact ⟨k2, (if_neg (by rw [e1]; decide)).mpr ((if_neg (by rw [e1]; decide)).mpr ((if_pos e1).mpr trivial))⟩, ?_⟩
    have hT := (T_giveKey q v hi hs ps ke).resolve_left (by rw [e1]; decide)
    rw [eL]
    exact ⟨e2, fun w => absurd (show (2 : Int32) = 0 from w) (by decide), (congrArg (fun z => z.1) hT).symm, (congrArg (fun z => z.2.1) hT).symm, (congrArg (fun z => z.2.2) hT).symm⟩
  · have eL := eL.trans ((if_neg (by rw [e1]; decide)).trans ((if_neg (by rw [e1]; decide)).trans ((if_neg (by rw [e1]; decide)).trans (if_pos e1))))
    refine ⟨by unfold ok_L_giveKey; exact ⟨k2, (if_neg (by rw [e1]; decide)).mpr ((if_neg (by rw [e1]; decide)).mpr ((if_neg (by rw [e1]; decide)).mpr ((if_pos e1).mpr trivial)))⟩, ?_⟩
    have hT := (T_giveKey q v hi hs ps ke).resolve_left (by rw [e1]; decide)
    rw [eL]
    exact ⟨e2, fun w => absurd (show (3 : Int32) = 0 from w) (by decide), (congrArg (fun z => z.1) hT).symm, (congrArg (fun z => z.2.1) hT).symm, (congrArg (fun z => z.2.2) hT).symm⟩
theorem T_takeKey (q : McV) (v : StV) (hi : HiV) (hs : Nat → StV) (ps : Int32) (ke : Int32) : (f_X9_takeKey q v hi hs ps ke).1 = "" ∨ (f_X9_takeKey q v hi hs ps ke).2.2 = (v, hi, hs) := by
  unfold f_X9_takeKey
  try dsimp only
  repeat' split
  all_goals first | exact Or.inl rfl | exact Or.inr rfl
theorem PL_takeKey (q : McV) (v : StV) (hi : HiV) (hs : Nat → StV) (ps : Int32) (ke : Int32) (ow : Nat → Int64) (k2 : nx9 hi.2) {b th : Int32} (C : RC ["java/lang/IndexOutOfBoundsException", "java/util/NoSuchElementException"] (f_X9_takeKey q v hi hs ps ke).1 (f_X9_takeKey q v hi hs ps ke).2.1 b th) : ok_L_takeKey q v hi hs ps ke ow ∧ th = (f_L_takeKey q v hi hs ps ke ow).1 ∧ ((f_L_takeKey q v hi hs ps ke ow).1 = 0 → (f_L_takeKey q v hi hs ps ke ow).2.2.2.2 (0 : Int32).toNatClampNeg = b.toInt64) ∧ (f_L_takeKey q v hi hs ps ke ow).2.1 = (f_X9_takeKey q v hi hs ps ke).2.2.1 ∧ (f_L_takeKey q v hi hs ps ke ow).2.2.1 = (f_X9_takeKey q v hi hs ps ke).2.2.2.1 ∧ (f_L_takeKey q v hi hs ps ke ow).2.2.2.1 = (f_X9_takeKey q v hi hs ps ke).2.2.2.2 := by
  have eL : (f_L_takeKey q v hi hs ps ke ow) = (if (f_X9_takeKey q v hi hs ps ke).1 = "" then ((0 : Int32), (f_X9_takeKey q v hi hs ps ke).2.2.1, (f_X9_takeKey q v hi hs ps ke).2.2.2.1, (f_X9_takeKey q v hi hs ps ke).2.2.2.2, (vp_updL ow (0 : Int32).toNatClampNeg (f_X9_takeKey q v hi hs ps ke).2.1.toInt64)) else (if (f_X9_takeKey q v hi hs ps ke).1 = "java/lang/IndexOutOfBoundsException" then ((1 : Int32), v, hi, hs, ow) else (if (f_X9_takeKey q v hi hs ps ke).1 = "java/util/NoSuchElementException" then ((2 : Int32), v, hi, hs, ow) else (0, v, hi, hs, ow)))) := rfl
  rcases RC_2 C with ⟨e1, e2, e3⟩ | ⟨e1, e2⟩ | ⟨e1, e2⟩
  · have eL := eL.trans (if_pos e1)
    refine ⟨by unfold ok_L_takeKey; exact ⟨k2, (if_pos e1).mpr trivial⟩, ?_⟩
    rw [eL]
    exact ⟨e2, fun _ => (show vp_updL ow (0 : Int32).toNatClampNeg ((f_X9_takeKey q v hi hs ps ke).2.1).toInt64 (0 : Int32).toNatClampNeg = _ from (updL_self _ _ _).trans (congrArg Int32.toInt64 e3)), rfl, rfl, rfl⟩
  · have eL := eL.trans ((if_neg (by rw [e1]; decide)).trans (if_pos e1))
    refine ⟨by unfold ok_L_takeKey; exact ⟨k2, (if_neg (by rw [e1]; decide)).mpr ((if_pos e1).mpr trivial)⟩, ?_⟩
    have hT := (T_takeKey q v hi hs ps ke).resolve_left (by rw [e1]; decide)
    rw [eL]
    exact ⟨e2, fun w => absurd (show (1 : Int32) = 0 from w) (by decide), (congrArg (fun z => z.1) hT).symm, (congrArg (fun z => z.2.1) hT).symm, (congrArg (fun z => z.2.2) hT).symm⟩
  · have eL := eL.trans ((if_neg (by rw [e1]; decide)).trans ((if_neg (by rw [e1]; decide)).trans (if_pos e1)))
    refine ⟨by unfold ok_L_takeKey; exact ⟨k2, (if_neg (by rw [e1]; decide)).mpr ((if_neg (by rw [e1]; decide)).mpr ((if_pos e1).mpr trivial))⟩, ?_⟩
    have hT := (T_takeKey q v hi hs ps ke).resolve_left (by rw [e1]; decide)
    rw [eL]
    exact ⟨e2, fun w => absurd (show (2 : Int32) = 0 from w) (by decide), (congrArg (fun z => z.1) hT).symm, (congrArg (fun z => z.2.1) hT).symm, (congrArg (fun z => z.2.2) hT).symm⟩
theorem T_tryDoor (q : McV) (v : StV) (hi : HiV) (hs : Nat → StV) (ps : Int32) (dr : Int32) : (f_X9_tryDoor q v hi hs ps dr).1 = "" ∨ (f_X9_tryDoor q v hi hs ps dr).2.2 = (v, hi, hs) := by
  unfold f_X9_tryDoor
  try dsimp only
  repeat' split
  all_goals first | exact Or.inl rfl | exact Or.inr rfl
theorem PL_tryDoor (q : McV) (v : StV) (hi : HiV) (hs : Nat → StV) (ps : Int32) (dr : Int32) (ow : Nat → Int64) (k2 : nx9 hi.2) {b th : Int32} (C : RC ["java/lang/IndexOutOfBoundsException"] (f_X9_tryDoor q v hi hs ps dr).1 (f_X9_tryDoor q v hi hs ps dr).2.1 b th) : ok_L_tryDoor q v hi hs ps dr ow ∧ th = (f_L_tryDoor q v hi hs ps dr ow).1 ∧ ((f_L_tryDoor q v hi hs ps dr ow).1 = 0 → (f_L_tryDoor q v hi hs ps dr ow).2.2.2.2 (0 : Int32).toNatClampNeg = b.toInt64) ∧ (f_L_tryDoor q v hi hs ps dr ow).2.1 = (f_X9_tryDoor q v hi hs ps dr).2.2.1 ∧ (f_L_tryDoor q v hi hs ps dr ow).2.2.1 = (f_X9_tryDoor q v hi hs ps dr).2.2.2.1 ∧ (f_L_tryDoor q v hi hs ps dr ow).2.2.2.1 = (f_X9_tryDoor q v hi hs ps dr).2.2.2.2 := by
  have eL : (f_L_tryDoor q v hi hs ps dr ow) = (if (f_X9_tryDoor q v hi hs ps dr).1 = "" then ((0 : Int32), (f_X9_tryDoor q v hi hs ps dr).2.2.1, (f_X9_tryDoor q v hi hs ps dr).2.2.2.1, (f_X9_tryDoor q v hi hs ps dr).2.2.2.2, (vp_updL ow (0 : Int32).toNatClampNeg (f_X9_tryDoor q v hi hs ps dr).2.1.toInt64)) else (if (f_X9_tryDoor q v hi hs ps dr).1 = "java/lang/IndexOutOfBoundsException" then ((1 : Int32), v, hi, hs, ow) else (0, v, hi, hs, ow))) := rfl
  rcases RC_1 C with ⟨e1, e2, e3⟩ | ⟨e1, e2⟩
  · have eL := eL.trans (if_pos e1)
    refine ⟨by unfold ok_L_tryDoor; exact ⟨k2, (if_pos e1).mpr trivial⟩, ?_⟩
    rw [eL]
    exact ⟨e2, fun _ => (show vp_updL ow (0 : Int32).toNatClampNeg ((f_X9_tryDoor q v hi hs ps dr).2.1).toInt64 (0 : Int32).toNatClampNeg = _ from (updL_self _ _ _).trans (congrArg Int32.toInt64 e3)), rfl, rfl, rfl⟩
  · have eL := eL.trans ((if_neg (by rw [e1]; decide)).trans (if_pos e1))
    refine ⟨by unfold ok_L_tryDoor; exact ⟨k2, (if_neg (by rw [e1]; decide)).mpr ((if_pos e1).mpr trivial)⟩, ?_⟩
    have hT := (T_tryDoor q v hi hs ps dr).resolve_left (by rw [e1]; decide)
    rw [eL]
    exact ⟨e2, fun w => absurd (show (1 : Int32) = 0 from w) (by decide), (congrArg (fun z => z.1) hT).symm, (congrArg (fun z => z.2.1) hT).symm, (congrArg (fun z => z.2.2) hT).symm⟩
theorem PL_wouldEnter (q : McV) (v : StV) (x : Int32) (y : Int32) (ow : Nat → Int64) {b th : Int32} (C : RC ["java/lang/IndexOutOfBoundsException"] (f_X9_wouldEnter q v x y).1 (f_X9_wouldEnter q v x y).2 b th) : ok_L_wouldEnter q v x y ow ∧ th = (f_L_wouldEnter q v x y ow).1 ∧ ((f_L_wouldEnter q v x y ow).1 = 0 → (f_L_wouldEnter q v x y ow).2 (0 : Int32).toNatClampNeg = b.toInt64) := by
  have eL : (f_L_wouldEnter q v x y ow) = (if (f_X9_wouldEnter q v x y).1 = "" then ((0 : Int32), (vp_updL ow (0 : Int32).toNatClampNeg (((f_X9_wouldEnter q v x y).2).toInt64))) else (if (f_X9_wouldEnter q v x y).1 = "java/lang/IndexOutOfBoundsException" then ((1 : Int32), ow) else (0, ow))) := rfl
  rcases RC_1 C with ⟨e1, e2, e3⟩ | ⟨e1, e2⟩
  · have eL := eL.trans (if_pos e1)
    refine ⟨by unfold ok_L_wouldEnter; exact (if_pos e1).mpr trivial, ?_⟩
    rw [eL]
    exact ⟨e2, fun _ => (show vp_updL ow (0 : Int32).toNatClampNeg ((f_X9_wouldEnter q v x y).2).toInt64 (0 : Int32).toNatClampNeg = _ from (updL_self _ _ _).trans (congrArg Int32.toInt64 e3))⟩
  · have eL := eL.trans ((if_neg (by rw [e1]; decide)).trans (if_pos e1))
    refine ⟨by unfold ok_L_wouldEnter; exact (if_neg (by rw [e1]; decide)).mpr ((if_pos e1).mpr trivial), ?_⟩
    rw [eL]
    exact ⟨e2, fun w => absurd (show (1 : Int32) = 0 from w) (by decide)⟩
theorem PL_hasKey (q : McV) (v : StV) (x : Int32) (y : Int32) (ow : Nat → Int64) {b th : Int32} (C : RC ["java/lang/IndexOutOfBoundsException"] (f_X9_hasKey q v x y).1 (f_X9_hasKey q v x y).2 b th) : ok_L_hasKey q v x y ow ∧ th = (f_L_hasKey q v x y ow).1 ∧ ((f_L_hasKey q v x y ow).1 = 0 → (f_L_hasKey q v x y ow).2 (0 : Int32).toNatClampNeg = (if b = (0 : Int32) then (0 : Int64) else 1)) := by
  have eL : (f_L_hasKey q v x y ow) = (if (f_X9_hasKey q v x y).1 = "" then (if (f_X9_hasKey q v x y).2 = (0 : Int32) then ((0 : Int32), (vp_updL ow (0 : Int32).toNatClampNeg (0 : Int64))) else ((0 : Int32), (vp_updL ow (0 : Int32).toNatClampNeg (1 : Int64)))) else (if (f_X9_hasKey q v x y).1 = "java/lang/IndexOutOfBoundsException" then ((1 : Int32), ow) else (0, ow))) := rfl
  rcases RC_1 C with ⟨e1, e2, e3⟩ | ⟨e1, e2⟩
  · have eL := eL.trans (if_pos e1)
    refine ⟨by unfold ok_L_hasKey; exact (if_pos e1).mpr trivial, ?_⟩
    rw [e3] at eL
    by_cases f : b = 0
    · have eL := eL.trans (if_pos f)
      rw [eL]
      exact ⟨e2, fun _ => (show vp_updL ow (0 : Int32).toNatClampNeg (0 : Int64) (0 : Int32).toNatClampNeg = _ from (updL_self _ _ _).trans (if_pos f).symm)⟩
    · have eL := eL.trans (if_neg f)
      rw [eL]
      exact ⟨e2, fun _ => (show vp_updL ow (0 : Int32).toNatClampNeg (1 : Int64) (0 : Int32).toNatClampNeg = _ from (updL_self _ _ _).trans (if_neg f).symm)⟩
  · have eL := eL.trans ((if_neg (by rw [e1]; decide)).trans (if_pos e1))
    refine ⟨by unfold ok_L_hasKey; exact (if_neg (by rw [e1]; decide)).mpr ((if_pos e1).mpr trivial), ?_⟩
    rw [eL]
    exact ⟨e2, fun w => absurd (show (1 : Int32) = 0 from w) (by decide)⟩
theorem PL_keyAt (q : McV) (v : StV) (x : Int32) (y : Int32) (ow : Nat → Int64) {b th : Int32} (C : RC ["java/lang/IndexOutOfBoundsException", "java/util/NoSuchElementException"] (f_X9_keyAt q v x y).1 (f_X9_keyAt q v x y).2 b th) : ok_L_keyAt q v x y ow ∧ th = (f_L_keyAt q v x y ow).1 ∧ ((f_L_keyAt q v x y ow).1 = 0 → (f_L_keyAt q v x y ow).2 (0 : Int32).toNatClampNeg = b.toInt64) := by
  have eL : (f_L_keyAt q v x y ow) = (if (f_X9_keyAt q v x y).1 = "" then ((0 : Int32), (vp_updL ow (0 : Int32).toNatClampNeg (((f_X9_keyAt q v x y).2).toInt64))) else (if (f_X9_keyAt q v x y).1 = "java/lang/IndexOutOfBoundsException" then ((1 : Int32), ow) else (if (f_X9_keyAt q v x y).1 = "java/util/NoSuchElementException" then ((2 : Int32), ow) else (0, ow)))) := rfl
  rcases RC_2 C with ⟨e1, e2, e3⟩ | ⟨e1, e2⟩ | ⟨e1, e2⟩
  · have eL := eL.trans (if_pos e1)
    refine ⟨by unfold ok_L_keyAt; exact (if_pos e1).mpr trivial, ?_⟩
    rw [eL]
    exact ⟨e2, fun _ => (show vp_updL ow (0 : Int32).toNatClampNeg ((f_X9_keyAt q v x y).2).toInt64 (0 : Int32).toNatClampNeg = _ from (updL_self _ _ _).trans (congrArg Int32.toInt64 e3))⟩
  · have eL := eL.trans ((if_neg (by rw [e1]; decide)).trans (if_pos e1))
    refine ⟨by unfold ok_L_keyAt; exact (if_neg (by rw [e1]; decide)).mpr ((if_pos e1).mpr trivial), ?_⟩
    rw [eL]
    exact ⟨e2, fun w => absurd (show (1 : Int32) = 0 from w) (by decide)⟩
  · have eL := eL.trans ((if_neg (by rw [e1]; decide)).trans ((if_neg (by rw [e1]; decide)).trans (if_pos e1)))
    refine ⟨by unfold ok_L_keyAt; exact (if_neg (by rw [e1]; decide)).mpr ((if_neg (by rw [e1]; decide)).mpr ((if_pos e1).mpr trivial)), ?_⟩
    rw [eL]
    exact ⟨e2, fun w => absurd (show (2 : Int32) = 0 from w) (by decide)⟩
theorem PL_doorsOfRing (q : McV) (v : StV) (x : Int32) (ow : Nat → Int64) {b th : Int32} (C : RC ["java/lang/IndexOutOfBoundsException"] (f_X9_doorsOfRing q v x).1 (f_X9_doorsOfRing q v x).2 b th) : ok_L_doorsOfRing q v x ow ∧ th = (f_L_doorsOfRing q v x ow).1 ∧ ((f_L_doorsOfRing q v x ow).1 = 0 → (f_L_doorsOfRing q v x ow).2 (0 : Int32).toNatClampNeg = b.toInt64) := by
  have eL : (f_L_doorsOfRing q v x ow) = (if (f_X9_doorsOfRing q v x).1 = "" then ((0 : Int32), (vp_updL ow (0 : Int32).toNatClampNeg (((f_X9_doorsOfRing q v x).2).toInt64))) else (if (f_X9_doorsOfRing q v x).1 = "java/lang/IndexOutOfBoundsException" then ((1 : Int32), ow) else (0, ow))) := rfl
  rcases RC_1 C with ⟨e1, e2, e3⟩ | ⟨e1, e2⟩
  · have eL := eL.trans (if_pos e1)
    refine ⟨by unfold ok_L_doorsOfRing; exact (if_pos e1).mpr trivial, ?_⟩
    rw [eL]
    exact ⟨e2, fun _ => (show vp_updL ow (0 : Int32).toNatClampNeg ((f_X9_doorsOfRing q v x).2).toInt64 (0 : Int32).toNatClampNeg = _ from (updL_self _ _ _).trans (congrArg Int32.toInt64 e3))⟩
  · have eL := eL.trans ((if_neg (by rw [e1]; decide)).trans (if_pos e1))
    refine ⟨by unfold ok_L_doorsOfRing; exact (if_neg (by rw [e1]; decide)).mpr ((if_pos e1).mpr trivial), ?_⟩
    rw [eL]
    exact ⟨e2, fun w => absurd (show (1 : Int32) = 0 from w) (by decide)⟩
theorem PL_personByEntries (q : McV) (v : StV) (x : Int32) (ow : Nat → Int64) {b th : Int32} (C : RC ["java/lang/IndexOutOfBoundsException"] (f_X9_personByEntries q v x).1 (f_X9_personByEntries q v x).2 b th) : ok_L_personByEntries q v x ow ∧ th = (f_L_personByEntries q v x ow).1 ∧ ((f_L_personByEntries q v x ow).1 = 0 → (f_L_personByEntries q v x ow).2 (0 : Int32).toNatClampNeg = b.toInt64) := by
  have eL : (f_L_personByEntries q v x ow) = (if (f_X9_personByEntries q v x).1 = "" then ((0 : Int32), (vp_updL ow (0 : Int32).toNatClampNeg (((f_X9_personByEntries q v x).2).toInt64))) else (if (f_X9_personByEntries q v x).1 = "java/lang/IndexOutOfBoundsException" then ((1 : Int32), ow) else (0, ow))) := rfl
  rcases RC_1 C with ⟨e1, e2, e3⟩ | ⟨e1, e2⟩
  · have eL := eL.trans (if_pos e1)
    refine ⟨by unfold ok_L_personByEntries; exact (if_pos e1).mpr trivial, ?_⟩
    rw [eL]
    exact ⟨e2, fun _ => (show vp_updL ow (0 : Int32).toNatClampNeg ((f_X9_personByEntries q v x).2).toInt64 (0 : Int32).toNatClampNeg = _ from (updL_self _ _ _).trans (congrArg Int32.toInt64 e3))⟩
  · have eL := eL.trans ((if_neg (by rw [e1]; decide)).trans (if_pos e1))
    refine ⟨by unfold ok_L_personByEntries; exact (if_neg (by rw [e1]; decide)).mpr ((if_pos e1).mpr trivial), ?_⟩
    rw [eL]
    exact ⟨e2, fun w => absurd (show (1 : Int32) = 0 from w) (by decide)⟩
theorem PL_entriesOf (q : McV) (v : StV) (x : Int32) (ow : Nat → Int64) {b th : Int32} (C : RC ["java/lang/IndexOutOfBoundsException"] (f_X9_entriesOf q v x).1 (f_X9_entriesOf q v x).2 b th) : ok_L_entriesOf q v x ow ∧ th = (f_L_entriesOf q v x ow).1 ∧ ((f_L_entriesOf q v x ow).1 = 0 → (f_L_entriesOf q v x ow).2 (0 : Int32).toNatClampNeg = b.toInt64) := by
  have eL : (f_L_entriesOf q v x ow) = (if (f_X9_entriesOf q v x).1 = "" then ((0 : Int32), (vp_updL ow (0 : Int32).toNatClampNeg (((f_X9_entriesOf q v x).2).toInt64))) else (if (f_X9_entriesOf q v x).1 = "java/lang/IndexOutOfBoundsException" then ((1 : Int32), ow) else (0, ow))) := rfl
  rcases RC_1 C with ⟨e1, e2, e3⟩ | ⟨e1, e2⟩
  · have eL := eL.trans (if_pos e1)
    refine ⟨by unfold ok_L_entriesOf; exact (if_pos e1).mpr trivial, ?_⟩
    rw [eL]
    exact ⟨e2, fun _ => (show vp_updL ow (0 : Int32).toNatClampNeg ((f_X9_entriesOf q v x).2).toInt64 (0 : Int32).toNatClampNeg = _ from (updL_self _ _ _).trans (congrArg Int32.toInt64 e3))⟩
  · have eL := eL.trans ((if_neg (by rw [e1]; decide)).trans (if_pos e1))
    refine ⟨by unfold ok_L_entriesOf; exact (if_neg (by rw [e1]; decide)).mpr ((if_pos e1).mpr trivial), ?_⟩
    rw [eL]
    exact ⟨e2, fun w => absurd (show (1 : Int32) = 0 from w) (by decide)⟩
theorem T_advance (q : McV) (v : StV) (hi : HiV) (hs : Nat → StV) (ho : Int32) : (f_X9_advance q v hi hs ho).1 = "" ∨ (f_X9_advance q v hi hs ho).2.2 = (v, hi, hs) := by
  unfold f_X9_advance
  try dsimp only
  repeat' split
  all_goals first | exact Or.inl rfl | exact Or.inr rfl
theorem PL_advance (q : McV) (v : StV) (hi : HiV) (hs : Nat → StV) (ho : Int32) (ow : Nat → Int64) (k2 : nx9 hi.2) {b th : Int32} (C : RC ["java/lang/IllegalArgumentException"] (f_X9_advance q v hi hs ho).1 (f_X9_advance q v hi hs ho).2.1 b th) : ok_L_advance q v hi hs ho ow ∧ th = (f_L_advance q v hi hs ho ow).1 ∧ ((f_L_advance q v hi hs ho ow).1 = 0 → (f_L_advance q v hi hs ho ow).2.2.2.2 (0 : Int32).toNatClampNeg = b.toInt64) ∧ (f_L_advance q v hi hs ho ow).2.1 = (f_X9_advance q v hi hs ho).2.2.1 ∧ (f_L_advance q v hi hs ho ow).2.2.1 = (f_X9_advance q v hi hs ho).2.2.2.1 ∧ (f_L_advance q v hi hs ho ow).2.2.2.1 = (f_X9_advance q v hi hs ho).2.2.2.2 := by
  have eL : (f_L_advance q v hi hs ho ow) = (if (f_X9_advance q v hi hs ho).1 = "" then ((0 : Int32), (f_X9_advance q v hi hs ho).2.2.1, (f_X9_advance q v hi hs ho).2.2.2.1, (f_X9_advance q v hi hs ho).2.2.2.2, (vp_updL ow (0 : Int32).toNatClampNeg (f_X9_advance q v hi hs ho).2.1.toInt64)) else (if (f_X9_advance q v hi hs ho).1 = "java/lang/IllegalArgumentException" then ((1 : Int32), v, hi, hs, ow) else (0, v, hi, hs, ow))) := rfl
  rcases RC_1 C with ⟨e1, e2, e3⟩ | ⟨e1, e2⟩
  · have eL := eL.trans (if_pos e1)
    refine ⟨by unfold ok_L_advance; exact ⟨k2, (if_pos e1).mpr trivial⟩, ?_⟩
    rw [eL]
    exact ⟨e2, fun _ => (show vp_updL ow (0 : Int32).toNatClampNeg ((f_X9_advance q v hi hs ho).2.1).toInt64 (0 : Int32).toNatClampNeg = _ from (updL_self _ _ _).trans (congrArg Int32.toInt64 e3)), rfl, rfl, rfl⟩
  · have eL := eL.trans ((if_neg (by rw [e1]; decide)).trans (if_pos e1))
    refine ⟨by unfold ok_L_advance; exact ⟨k2, (if_neg (by rw [e1]; decide)).mpr ((if_pos e1).mpr trivial)⟩, ?_⟩
    have hT := (T_advance q v hi hs ho).resolve_left (by rw [e1]; decide)
    rw [eL]
    exact ⟨e2, fun w => absurd (show (1 : Int32) = 0 from w) (by decide), (congrArg (fun z => z.1) hT).symm, (congrArg (fun z => z.2.1) hT).symm, (congrArg (fun z => z.2.2) hT).symm⟩
theorem PL_phaseOn (q : McV) (v : StV) (x : Int32) (ow : Nat → Int64) {b th : Int32} (C : RC ["java/lang/IllegalArgumentException"] (f_X9_phaseOn q v x).1 (f_X9_phaseOn q v x).2 b th) : ok_L_phaseOn q v x ow ∧ th = (f_L_phaseOn q v x ow).1 ∧ ((f_L_phaseOn q v x ow).1 = 0 → (f_L_phaseOn q v x ow).2 (0 : Int32).toNatClampNeg = b.toInt64) := by
  have eL : (f_L_phaseOn q v x ow) = (if (f_X9_phaseOn q v x).1 = "" then ((0 : Int32), (vp_updL ow (0 : Int32).toNatClampNeg (((f_X9_phaseOn q v x).2).toInt64))) else (if (f_X9_phaseOn q v x).1 = "java/lang/IllegalArgumentException" then ((1 : Int32), ow) else (0, ow))) := rfl
  rcases RC_1 C with ⟨e1, e2, e3⟩ | ⟨e1, e2⟩
  · have eL := eL.trans (if_pos e1)
    refine ⟨by unfold ok_L_phaseOn; exact (if_pos e1).mpr trivial, ?_⟩
    rw [eL]
    exact ⟨e2, fun _ => (show vp_updL ow (0 : Int32).toNatClampNeg ((f_X9_phaseOn q v x).2).toInt64 (0 : Int32).toNatClampNeg = _ from (updL_self _ _ _).trans (congrArg Int32.toInt64 e3))⟩
  · have eL := eL.trans ((if_neg (by rw [e1]; decide)).trans (if_pos e1))
    refine ⟨by unfold ok_L_phaseOn; exact (if_neg (by rw [e1]; decide)).mpr ((if_pos e1).mpr trivial), ?_⟩
    rw [eL]
    exact ⟨e2, fun w => absurd (show (1 : Int32) = 0 from w) (by decide)⟩
theorem PL_daysUntilPhase (q : McV) (v : StV) (x : Int32) (ow : Nat → Int64) {b th : Int32} (C : RC ["java/lang/IllegalArgumentException"] (f_X9_daysUntilPhase q v x).1 (f_X9_daysUntilPhase q v x).2 b th) : ok_L_daysUntilPhase q v x ow ∧ th = (f_L_daysUntilPhase q v x ow).1 ∧ ((f_L_daysUntilPhase q v x ow).1 = 0 → (f_L_daysUntilPhase q v x ow).2 (0 : Int32).toNatClampNeg = b.toInt64) := by
  have eL : (f_L_daysUntilPhase q v x ow) = (if (f_X9_daysUntilPhase q v x).1 = "" then ((0 : Int32), (vp_updL ow (0 : Int32).toNatClampNeg (((f_X9_daysUntilPhase q v x).2).toInt64))) else (if (f_X9_daysUntilPhase q v x).1 = "java/lang/IllegalArgumentException" then ((1 : Int32), ow) else (0, ow))) := rfl
  rcases RC_1 C with ⟨e1, e2, e3⟩ | ⟨e1, e2⟩
  · have eL := eL.trans (if_pos e1)
    refine ⟨by unfold ok_L_daysUntilPhase; exact (if_pos e1).mpr trivial, ?_⟩
    rw [eL]
    exact ⟨e2, fun _ => (show vp_updL ow (0 : Int32).toNatClampNeg ((f_X9_daysUntilPhase q v x).2).toInt64 (0 : Int32).toNatClampNeg = _ from (updL_self _ _ _).trans (congrArg Int32.toInt64 e3))⟩
  · have eL := eL.trans ((if_neg (by rw [e1]; decide)).trans (if_pos e1))
    refine ⟨by unfold ok_L_daysUntilPhase; exact (if_neg (by rw [e1]; decide)).mpr ((if_pos e1).mpr trivial), ?_⟩
    rw [eL]
    exact ⟨e2, fun w => absurd (show (1 : Int32) = 0 from w) (by decide)⟩
theorem PL_isUnlocked (q : McV) (v : StV) (x : Int32) (ow : Nat → Int64) {b th : Int32} (C : RC ["java/lang/IndexOutOfBoundsException"] (f_X9_isUnlocked q v x).1 (f_X9_isUnlocked q v x).2 b th) : ok_L_isUnlocked q v x ow ∧ th = (f_L_isUnlocked q v x ow).1 ∧ ((f_L_isUnlocked q v x ow).1 = 0 → (f_L_isUnlocked q v x ow).2 (0 : Int32).toNatClampNeg = (if b = (0 : Int32) then (0 : Int64) else 1)) := by
  have eL : (f_L_isUnlocked q v x ow) = (if (f_X9_isUnlocked q v x).1 = "" then (if (f_X9_isUnlocked q v x).2 = (0 : Int32) then ((0 : Int32), (vp_updL ow (0 : Int32).toNatClampNeg (0 : Int64))) else ((0 : Int32), (vp_updL ow (0 : Int32).toNatClampNeg (1 : Int64)))) else (if (f_X9_isUnlocked q v x).1 = "java/lang/IndexOutOfBoundsException" then ((1 : Int32), ow) else (0, ow))) := rfl
  rcases RC_1 C with ⟨e1, e2, e3⟩ | ⟨e1, e2⟩
  · have eL := eL.trans (if_pos e1)
    refine ⟨by unfold ok_L_isUnlocked; exact (if_pos e1).mpr trivial, ?_⟩
    rw [e3] at eL
    by_cases f : b = 0
    · have eL := eL.trans (if_pos f)
      rw [eL]
      exact ⟨e2, fun _ => (show vp_updL ow (0 : Int32).toNatClampNeg (0 : Int64) (0 : Int32).toNatClampNeg = _ from (updL_self _ _ _).trans (if_pos f).symm)⟩
    · have eL := eL.trans (if_neg f)
      rw [eL]
      exact ⟨e2, fun _ => (show vp_updL ow (0 : Int32).toNatClampNeg (1 : Int64) (0 : Int32).toNatClampNeg = _ from (updL_self _ _ _).trans (if_neg f).symm)⟩
  · have eL := eL.trans ((if_neg (by rw [e1]; decide)).trans (if_pos e1))
    refine ⟨by unfold ok_L_isUnlocked; exact (if_neg (by rw [e1]; decide)).mpr ((if_pos e1).mpr trivial), ?_⟩
    rw [eL]
    exact ⟨e2, fun w => absurd (show (1 : Int32) = 0 from w) (by decide)⟩
theorem PL_hoursUntilUnlocked (q : McV) (v : StV) (x : Int32) (ow : Nat → Int64) {b th : Int32} (C : RC ["java/lang/IndexOutOfBoundsException", "java/util/NoSuchElementException"] (f_X9_hoursUntilUnlocked q v x).1 (f_X9_hoursUntilUnlocked q v x).2 b th) : ok_L_hoursUntilUnlocked q v x ow ∧ th = (f_L_hoursUntilUnlocked q v x ow).1 ∧ ((f_L_hoursUntilUnlocked q v x ow).1 = 0 → (f_L_hoursUntilUnlocked q v x ow).2 (0 : Int32).toNatClampNeg = b.toInt64) := by
  have eL : (f_L_hoursUntilUnlocked q v x ow) = (if (f_X9_hoursUntilUnlocked q v x).1 = "" then ((0 : Int32), (vp_updL ow (0 : Int32).toNatClampNeg (((f_X9_hoursUntilUnlocked q v x).2).toInt64))) else (if (f_X9_hoursUntilUnlocked q v x).1 = "java/lang/IndexOutOfBoundsException" then ((1 : Int32), ow) else (if (f_X9_hoursUntilUnlocked q v x).1 = "java/util/NoSuchElementException" then ((2 : Int32), ow) else (0, ow)))) := rfl
  rcases RC_2 C with ⟨e1, e2, e3⟩ | ⟨e1, e2⟩ | ⟨e1, e2⟩
  · have eL := eL.trans (if_pos e1)
    refine ⟨by unfold ok_L_hoursUntilUnlocked; exact (if_pos e1).mpr trivial, ?_⟩
    rw [eL]
    exact ⟨e2, fun _ => (show vp_updL ow (0 : Int32).toNatClampNeg ((f_X9_hoursUntilUnlocked q v x).2).toInt64 (0 : Int32).toNatClampNeg = _ from (updL_self _ _ _).trans (congrArg Int32.toInt64 e3))⟩
  · have eL := eL.trans ((if_neg (by rw [e1]; decide)).trans (if_pos e1))
    refine ⟨by unfold ok_L_hoursUntilUnlocked; exact (if_neg (by rw [e1]; decide)).mpr ((if_pos e1).mpr trivial), ?_⟩
    rw [eL]
    exact ⟨e2, fun w => absurd (show (1 : Int32) = 0 from w) (by decide)⟩
  · have eL := eL.trans ((if_neg (by rw [e1]; decide)).trans ((if_neg (by rw [e1]; decide)).trans (if_pos e1)))
    refine ⟨by unfold ok_L_hoursUntilUnlocked; exact (if_neg (by rw [e1]; decide)).mpr ((if_neg (by rw [e1]; decide)).mpr ((if_pos e1).mpr trivial)), ?_⟩
    rw [eL]
    exact ⟨e2, fun w => absurd (show (2 : Int32) = 0 from w) (by decide)⟩
theorem PL_hoursUntilUnlockedByDays (q : McV) (v : StV) (x : Int32) (ow : Nat → Int64) {b th : Int32} (C : RC ["java/lang/IndexOutOfBoundsException", "java/util/NoSuchElementException"] (f_X9_hoursUntilUnlockedByDays q v x).1 (f_X9_hoursUntilUnlockedByDays q v x).2 b th) : ok_L_hoursUntilUnlockedByDays q v x ow ∧ th = (f_L_hoursUntilUnlockedByDays q v x ow).1 ∧ ((f_L_hoursUntilUnlockedByDays q v x ow).1 = 0 → (f_L_hoursUntilUnlockedByDays q v x ow).2 (0 : Int32).toNatClampNeg = b.toInt64) := by
  have eL : (f_L_hoursUntilUnlockedByDays q v x ow) = (if (f_X9_hoursUntilUnlockedByDays q v x).1 = "" then ((0 : Int32), (vp_updL ow (0 : Int32).toNatClampNeg (((f_X9_hoursUntilUnlockedByDays q v x).2).toInt64))) else (if (f_X9_hoursUntilUnlockedByDays q v x).1 = "java/lang/IndexOutOfBoundsException" then ((1 : Int32), ow) else (if (f_X9_hoursUntilUnlockedByDays q v x).1 = "java/util/NoSuchElementException" then ((2 : Int32), ow) else (0, ow)))) := rfl
  rcases RC_2 C with ⟨e1, e2, e3⟩ | ⟨e1, e2⟩ | ⟨e1, e2⟩
  · have eL := eL.trans (if_pos e1)
    refine ⟨by unfold ok_L_hoursUntilUnlockedByDays; exact (if_pos e1).mpr trivial, ?_⟩
    rw [eL]
    exact ⟨e2, fun _ => (show vp_updL ow (0 : Int32).toNatClampNeg ((f_X9_hoursUntilUnlockedByDays q v x).2).toInt64 (0 : Int32).toNatClampNeg = _ from (updL_self _ _ _).trans (congrArg Int32.toInt64 e3))⟩
  · have eL := eL.trans ((if_neg (by rw [e1]; decide)).trans (if_pos e1))
    refine ⟨by unfold ok_L_hoursUntilUnlockedByDays; exact (if_neg (by rw [e1]; decide)).mpr ((if_pos e1).mpr trivial), ?_⟩
    rw [eL]
    exact ⟨e2, fun w => absurd (show (1 : Int32) = 0 from w) (by decide)⟩
  · have eL := eL.trans ((if_neg (by rw [e1]; decide)).trans ((if_neg (by rw [e1]; decide)).trans (if_pos e1)))
    refine ⟨by unfold ok_L_hoursUntilUnlockedByDays; exact (if_neg (by rw [e1]; decide)).mpr ((if_neg (by rw [e1]; decide)).mpr ((if_pos e1).mpr trivial)), ?_⟩
    rw [eL]
    exact ⟨e2, fun w => absurd (show (2 : Int32) = 0 from w) (by decide)⟩
theorem PL_unlockedHours (q : McV) (v : StV) (x : Int32) (y : Int32) (ow : Nat → Int64) {b th : Int32} (C : RC ["java/lang/IndexOutOfBoundsException", "java/lang/IllegalArgumentException"] (f_X9_unlockedHours q v x y).1 (f_X9_unlockedHours q v x y).2 b th) : ok_L_unlockedHours q v x y ow ∧ th = (f_L_unlockedHours q v x y ow).1 ∧ ((f_L_unlockedHours q v x y ow).1 = 0 → (f_L_unlockedHours q v x y ow).2 (0 : Int32).toNatClampNeg = b.toInt64) := by
  have eL : (f_L_unlockedHours q v x y ow) = (if (f_X9_unlockedHours q v x y).1 = "" then ((0 : Int32), (vp_updL ow (0 : Int32).toNatClampNeg (((f_X9_unlockedHours q v x y).2).toInt64))) else (if (f_X9_unlockedHours q v x y).1 = "java/lang/IndexOutOfBoundsException" then ((1 : Int32), ow) else (if (f_X9_unlockedHours q v x y).1 = "java/lang/IllegalArgumentException" then ((2 : Int32), ow) else (0, ow)))) := rfl
  rcases RC_2 C with ⟨e1, e2, e3⟩ | ⟨e1, e2⟩ | ⟨e1, e2⟩
  · have eL := eL.trans (if_pos e1)
    refine ⟨by unfold ok_L_unlockedHours; exact (if_pos e1).mpr trivial, ?_⟩
    rw [eL]
    exact ⟨e2, fun _ => (show vp_updL ow (0 : Int32).toNatClampNeg ((f_X9_unlockedHours q v x y).2).toInt64 (0 : Int32).toNatClampNeg = _ from (updL_self _ _ _).trans (congrArg Int32.toInt64 e3))⟩
  · have eL := eL.trans ((if_neg (by rw [e1]; decide)).trans (if_pos e1))
    refine ⟨by unfold ok_L_unlockedHours; exact (if_neg (by rw [e1]; decide)).mpr ((if_pos e1).mpr trivial), ?_⟩
    rw [eL]
    exact ⟨e2, fun w => absurd (show (1 : Int32) = 0 from w) (by decide)⟩
  · have eL := eL.trans ((if_neg (by rw [e1]; decide)).trans ((if_neg (by rw [e1]; decide)).trans (if_pos e1)))
    refine ⟨by unfold ok_L_unlockedHours; exact (if_neg (by rw [e1]; decide)).mpr ((if_neg (by rw [e1]; decide)).mpr ((if_pos e1).mpr trivial)), ?_⟩
    rw [eL]
    exact ⟨e2, fun w => absurd (show (2 : Int32) = 0 from w) (by decide)⟩
theorem PL_openDoorsFor (q : McV) (v : StV) (x : Int32) (ow : Nat → Int64) {b th : Int32} (C : RC ["java/lang/IndexOutOfBoundsException"] (f_X9_openDoorsFor q v x).1 (f_X9_openDoorsFor q v x).2 b th) : ok_L_openDoorsFor q v x ow ∧ th = (f_L_openDoorsFor q v x ow).1 ∧ ((f_L_openDoorsFor q v x ow).1 = 0 → (f_L_openDoorsFor q v x ow).2 (0 : Int32).toNatClampNeg = b.toInt64) := by
  have eL : (f_L_openDoorsFor q v x ow) = (if (f_X9_openDoorsFor q v x).1 = "" then ((0 : Int32), (vp_updL ow (0 : Int32).toNatClampNeg (((f_X9_openDoorsFor q v x).2).toInt64))) else (if (f_X9_openDoorsFor q v x).1 = "java/lang/IndexOutOfBoundsException" then ((1 : Int32), ow) else (0, ow))) := rfl
  rcases RC_1 C with ⟨e1, e2, e3⟩ | ⟨e1, e2⟩
  · have eL := eL.trans (if_pos e1)
    refine ⟨by unfold ok_L_openDoorsFor; exact (if_pos e1).mpr trivial, ?_⟩
    rw [eL]
    exact ⟨e2, fun _ => (show vp_updL ow (0 : Int32).toNatClampNeg ((f_X9_openDoorsFor q v x).2).toInt64 (0 : Int32).toNatClampNeg = _ from (updL_self _ _ _).trans (congrArg Int32.toInt64 e3))⟩
  · have eL := eL.trans ((if_neg (by rw [e1]; decide)).trans (if_pos e1))
    refine ⟨by unfold ok_L_openDoorsFor; exact (if_neg (by rw [e1]; decide)).mpr ((if_pos e1).mpr trivial), ?_⟩
    rw [eL]
    exact ⟨e2, fun w => absurd (show (1 : Int32) = 0 from w) (by decide)⟩
theorem PL_entriesOn (q : McV) (v : StV) (x : Int32) (y : Int32) (ow : Nat → Int64) {b th : Int32} (C : RC ["java/lang/IndexOutOfBoundsException", "java/lang/IllegalArgumentException"] (f_X9_entriesOn q v x y).1 (f_X9_entriesOn q v x y).2 b th) : ok_L_entriesOn q v x y ow ∧ th = (f_L_entriesOn q v x y ow).1 ∧ ((f_L_entriesOn q v x y ow).1 = 0 → (f_L_entriesOn q v x y ow).2 (0 : Int32).toNatClampNeg = b.toInt64) := by
  have eL : (f_L_entriesOn q v x y ow) = (if (f_X9_entriesOn q v x y).1 = "" then ((0 : Int32), (vp_updL ow (0 : Int32).toNatClampNeg (((f_X9_entriesOn q v x y).2).toInt64))) else (if (f_X9_entriesOn q v x y).1 = "java/lang/IndexOutOfBoundsException" then ((1 : Int32), ow) else (if (f_X9_entriesOn q v x y).1 = "java/lang/IllegalArgumentException" then ((2 : Int32), ow) else (0, ow)))) := rfl
  rcases RC_2 C with ⟨e1, e2, e3⟩ | ⟨e1, e2⟩ | ⟨e1, e2⟩
  · have eL := eL.trans (if_pos e1)
    refine ⟨by unfold ok_L_entriesOn; exact (if_pos e1).mpr trivial, ?_⟩
    rw [eL]
    exact ⟨e2, fun _ => (show vp_updL ow (0 : Int32).toNatClampNeg ((f_X9_entriesOn q v x y).2).toInt64 (0 : Int32).toNatClampNeg = _ from (updL_self _ _ _).trans (congrArg Int32.toInt64 e3))⟩
  · have eL := eL.trans ((if_neg (by rw [e1]; decide)).trans (if_pos e1))
    refine ⟨by unfold ok_L_entriesOn; exact (if_neg (by rw [e1]; decide)).mpr ((if_pos e1).mpr trivial), ?_⟩
    rw [eL]
    exact ⟨e2, fun w => absurd (show (1 : Int32) = 0 from w) (by decide)⟩
  · have eL := eL.trans ((if_neg (by rw [e1]; decide)).trans ((if_neg (by rw [e1]; decide)).trans (if_pos e1)))
    refine ⟨by unfold ok_L_entriesOn; exact (if_neg (by rw [e1]; decide)).mpr ((if_neg (by rw [e1]; decide)).mpr ((if_pos e1).mpr trivial)), ?_⟩
    rw [eL]
    exact ⟨e2, fun w => absurd (show (2 : Int32) = 0 from w) (by decide)⟩
theorem PL_refusalsOn (q : McV) (v : StV) (x : Int32) (y : Int32) (ow : Nat → Int64) {b th : Int32} (C : RC ["java/lang/IndexOutOfBoundsException", "java/lang/IllegalArgumentException"] (f_X9_refusalsOn q v x y).1 (f_X9_refusalsOn q v x y).2 b th) : ok_L_refusalsOn q v x y ow ∧ th = (f_L_refusalsOn q v x y ow).1 ∧ ((f_L_refusalsOn q v x y ow).1 = 0 → (f_L_refusalsOn q v x y ow).2 (0 : Int32).toNatClampNeg = b.toInt64) := by
  have eL : (f_L_refusalsOn q v x y ow) = (if (f_X9_refusalsOn q v x y).1 = "" then ((0 : Int32), (vp_updL ow (0 : Int32).toNatClampNeg (((f_X9_refusalsOn q v x y).2).toInt64))) else (if (f_X9_refusalsOn q v x y).1 = "java/lang/IndexOutOfBoundsException" then ((1 : Int32), ow) else (if (f_X9_refusalsOn q v x y).1 = "java/lang/IllegalArgumentException" then ((2 : Int32), ow) else (0, ow)))) := rfl
  rcases RC_2 C with ⟨e1, e2, e3⟩ | ⟨e1, e2⟩ | ⟨e1, e2⟩
  · have eL := eL.trans (if_pos e1)
    refine ⟨by unfold ok_L_refusalsOn; exact (if_pos e1).mpr trivial, ?_⟩
    rw [eL]
    exact ⟨e2, fun _ => (show vp_updL ow (0 : Int32).toNatClampNeg ((f_X9_refusalsOn q v x y).2).toInt64 (0 : Int32).toNatClampNeg = _ from (updL_self _ _ _).trans (congrArg Int32.toInt64 e3))⟩
  · have eL := eL.trans ((if_neg (by rw [e1]; decide)).trans (if_pos e1))
    refine ⟨by unfold ok_L_refusalsOn; exact (if_neg (by rw [e1]; decide)).mpr ((if_pos e1).mpr trivial), ?_⟩
    rw [eL]
    exact ⟨e2, fun w => absurd (show (1 : Int32) = 0 from w) (by decide)⟩
  · have eL := eL.trans ((if_neg (by rw [e1]; decide)).trans ((if_neg (by rw [e1]; decide)).trans (if_pos e1)))
    refine ⟨by unfold ok_L_refusalsOn; exact (if_neg (by rw [e1]; decide)).mpr ((if_neg (by rw [e1]; decide)).mpr ((if_pos e1).mpr trivial)), ?_⟩
    rw [eL]
    exact ⟨e2, fun w => absurd (show (2 : Int32) = 0 from w) (by decide)⟩
theorem PL_loggedPerson (q : McV) (v : StV) (x : Int32) (ow : Nat → Int64) {b th : Int32} (C : RC ["java/util/NoSuchElementException"] (f_X9_loggedPerson q v x).1 (f_X9_loggedPerson q v x).2 b th) : ok_L_loggedPerson q v x ow ∧ th = (f_L_loggedPerson q v x ow).1 ∧ ((f_L_loggedPerson q v x ow).1 = 0 → (f_L_loggedPerson q v x ow).2 (0 : Int32).toNatClampNeg = b.toInt64) := by
  have eL : (f_L_loggedPerson q v x ow) = (if (f_X9_loggedPerson q v x).1 = "" then ((0 : Int32), (vp_updL ow (0 : Int32).toNatClampNeg (((f_X9_loggedPerson q v x).2).toInt64))) else (if (f_X9_loggedPerson q v x).1 = "java/util/NoSuchElementException" then ((1 : Int32), ow) else (0, ow))) := rfl
  rcases RC_1 C with ⟨e1, e2, e3⟩ | ⟨e1, e2⟩
  · have eL := eL.trans (if_pos e1)
    refine ⟨by unfold ok_L_loggedPerson; exact (if_pos e1).mpr trivial, ?_⟩
    rw [eL]
    exact ⟨e2, fun _ => (show vp_updL ow (0 : Int32).toNatClampNeg ((f_X9_loggedPerson q v x).2).toInt64 (0 : Int32).toNatClampNeg = _ from (updL_self _ _ _).trans (congrArg Int32.toInt64 e3))⟩
  · have eL := eL.trans ((if_neg (by rw [e1]; decide)).trans (if_pos e1))
    refine ⟨by unfold ok_L_loggedPerson; exact (if_neg (by rw [e1]; decide)).mpr ((if_pos e1).mpr trivial), ?_⟩
    rw [eL]
    exact ⟨e2, fun w => absurd (show (1 : Int32) = 0 from w) (by decide)⟩
theorem PL_loggedDoor (q : McV) (v : StV) (x : Int32) (ow : Nat → Int64) {b th : Int32} (C : RC ["java/util/NoSuchElementException"] (f_X9_loggedDoor q v x).1 (f_X9_loggedDoor q v x).2 b th) : ok_L_loggedDoor q v x ow ∧ th = (f_L_loggedDoor q v x ow).1 ∧ ((f_L_loggedDoor q v x ow).1 = 0 → (f_L_loggedDoor q v x ow).2 (0 : Int32).toNatClampNeg = b.toInt64) := by
  have eL : (f_L_loggedDoor q v x ow) = (if (f_X9_loggedDoor q v x).1 = "" then ((0 : Int32), (vp_updL ow (0 : Int32).toNatClampNeg (((f_X9_loggedDoor q v x).2).toInt64))) else (if (f_X9_loggedDoor q v x).1 = "java/util/NoSuchElementException" then ((1 : Int32), ow) else (0, ow))) := rfl
  rcases RC_1 C with ⟨e1, e2, e3⟩ | ⟨e1, e2⟩
  · have eL := eL.trans (if_pos e1)
    refine ⟨by unfold ok_L_loggedDoor; exact (if_pos e1).mpr trivial, ?_⟩
    rw [eL]
    exact ⟨e2, fun _ => (show vp_updL ow (0 : Int32).toNatClampNeg ((f_X9_loggedDoor q v x).2).toInt64 (0 : Int32).toNatClampNeg = _ from (updL_self _ _ _).trans (congrArg Int32.toInt64 e3))⟩
  · have eL := eL.trans ((if_neg (by rw [e1]; decide)).trans (if_pos e1))
    refine ⟨by unfold ok_L_loggedDoor; exact (if_neg (by rw [e1]; decide)).mpr ((if_pos e1).mpr trivial), ?_⟩
    rw [eL]
    exact ⟨e2, fun w => absurd (show (1 : Int32) = 0 from w) (by decide)⟩
theorem PL_loggedResult (q : McV) (v : StV) (x : Int32) (ow : Nat → Int64) {b th : Int32} (C : RC ["java/util/NoSuchElementException"] (f_X9_loggedResult q v x).1 (f_X9_loggedResult q v x).2 b th) : ok_L_loggedResult q v x ow ∧ th = (f_L_loggedResult q v x ow).1 ∧ ((f_L_loggedResult q v x ow).1 = 0 → (f_L_loggedResult q v x ow).2 (0 : Int32).toNatClampNeg = b.toInt64) := by
  have eL : (f_L_loggedResult q v x ow) = (if (f_X9_loggedResult q v x).1 = "" then ((0 : Int32), (vp_updL ow (0 : Int32).toNatClampNeg (((f_X9_loggedResult q v x).2).toInt64))) else (if (f_X9_loggedResult q v x).1 = "java/util/NoSuchElementException" then ((1 : Int32), ow) else (0, ow))) := rfl
  rcases RC_1 C with ⟨e1, e2, e3⟩ | ⟨e1, e2⟩
  · have eL := eL.trans (if_pos e1)
    refine ⟨by unfold ok_L_loggedResult; exact (if_pos e1).mpr trivial, ?_⟩
    rw [eL]
    exact ⟨e2, fun _ => (show vp_updL ow (0 : Int32).toNatClampNeg ((f_X9_loggedResult q v x).2).toInt64 (0 : Int32).toNatClampNeg = _ from (updL_self _ _ _).trans (congrArg Int32.toInt64 e3))⟩
  · have eL := eL.trans ((if_neg (by rw [e1]; decide)).trans (if_pos e1))
    refine ⟨by unfold ok_L_loggedResult; exact (if_neg (by rw [e1]; decide)).mpr ((if_pos e1).mpr trivial), ?_⟩
    rw [eL]
    exact ⟨e2, fun w => absurd (show (1 : Int32) = 0 from w) (by decide)⟩
theorem PL_attemptsWith (q : McV) (v : StV) (x : Int32) (ow : Nat → Int64) {b th : Int32} (C : RC ["java/lang/IllegalArgumentException"] (f_X9_attemptsWith q v x).1 (f_X9_attemptsWith q v x).2 b th) : ok_L_attemptsWith q v x ow ∧ th = (f_L_attemptsWith q v x ow).1 ∧ ((f_L_attemptsWith q v x ow).1 = 0 → (f_L_attemptsWith q v x ow).2 (0 : Int32).toNatClampNeg = b.toInt64) := by
  have eL : (f_L_attemptsWith q v x ow) = (if (f_X9_attemptsWith q v x).1 = "" then ((0 : Int32), (vp_updL ow (0 : Int32).toNatClampNeg (((f_X9_attemptsWith q v x).2).toInt64))) else (if (f_X9_attemptsWith q v x).1 = "java/lang/IllegalArgumentException" then ((1 : Int32), ow) else (0, ow))) := rfl
  rcases RC_1 C with ⟨e1, e2, e3⟩ | ⟨e1, e2⟩
  · have eL := eL.trans (if_pos e1)
    refine ⟨by unfold ok_L_attemptsWith; exact (if_pos e1).mpr trivial, ?_⟩
    rw [eL]
    exact ⟨e2, fun _ => (show vp_updL ow (0 : Int32).toNatClampNeg ((f_X9_attemptsWith q v x).2).toInt64 (0 : Int32).toNatClampNeg = _ from (updL_self _ _ _).trans (congrArg Int32.toInt64 e3))⟩
  · have eL := eL.trans ((if_neg (by rw [e1]; decide)).trans (if_pos e1))
    refine ⟨by unfold ok_L_attemptsWith; exact (if_neg (by rw [e1]; decide)).mpr ((if_pos e1).mpr trivial), ?_⟩
    rw [eL]
    exact ⟨e2, fun w => absurd (show (1 : Int32) = 0 from w) (by decide)⟩
theorem T_writeNotice (q : McV) (v : StV) (nb : SbV) (dr : Int32) : (f_X9_writeNotice q v nb dr).1 = "" ∨ (f_X9_writeNotice q v nb dr).2.2 = nb := by
  unfold f_X9_writeNotice
  try dsimp only
  repeat' split
  all_goals first | exact Or.inl rfl | exact Or.inr rfl
theorem PL_writeNotice (q : McV) (v : StV) (nb : SbV) (dr : Int32) (ow : Nat → Int64) (k1 : ok_X9_writeNotice q v nb dr) {b th : Int32} (C : RC ["java/lang/IndexOutOfBoundsException"] (f_X9_writeNotice q v nb dr).1 (f_X9_writeNotice q v nb dr).2.1 b th) : ok_L_writeNotice q v nb dr ow ∧ th = (f_L_writeNotice q v nb dr ow).1 ∧ ((f_L_writeNotice q v nb dr ow).1 = 0 → (f_L_writeNotice q v nb dr ow).2.2 (0 : Int32).toNatClampNeg = b.toInt64) ∧ (f_L_writeNotice q v nb dr ow).2.1 = (f_X9_writeNotice q v nb dr).2.2 := by
  have eL : (f_L_writeNotice q v nb dr ow) = (if (f_X9_writeNotice q v nb dr).1 = "" then ((0 : Int32), (f_X9_writeNotice q v nb dr).2.2, (vp_updL ow (0 : Int32).toNatClampNeg (f_X9_writeNotice q v nb dr).2.1.toInt64)) else (if (f_X9_writeNotice q v nb dr).1 = "java/lang/IndexOutOfBoundsException" then ((1 : Int32), nb, ow) else (0, nb, ow))) := rfl
  rcases RC_1 C with ⟨e1, e2, e3⟩ | ⟨e1, e2⟩
  · have eL := eL.trans (if_pos e1)
    refine ⟨by unfold ok_L_writeNotice; exact ⟨k1, (if_pos e1).mpr trivial⟩, ?_⟩
    rw [eL]
    exact ⟨e2, fun _ => (show vp_updL ow (0 : Int32).toNatClampNeg ((f_X9_writeNotice q v nb dr).2.1).toInt64 (0 : Int32).toNatClampNeg = _ from (updL_self _ _ _).trans (congrArg Int32.toInt64 e3)), rfl⟩
  · have eL := eL.trans ((if_neg (by rw [e1]; decide)).trans (if_pos e1))
    refine ⟨by unfold ok_L_writeNotice; exact ⟨k1, (if_neg (by rw [e1]; decide)).mpr ((if_pos e1).mpr trivial)⟩, ?_⟩
    have hT := (T_writeNotice q v nb dr).resolve_left (by rw [e1]; decide)
    rw [eL]
    exact ⟨e2, fun w => absurd (show (1 : Int32) = 0 from w) (by decide), hT.symm⟩
theorem PL_noticeAt (q : McV) (nb : SbV) (x : Int32) (ow : Nat → Int64) (k1 : ok_X9_noticeAt q nb x) {b th : Int32} (C : RC ["java/lang/IndexOutOfBoundsException"] (f_X9_noticeAt q nb x).1 (f_X9_noticeAt q nb x).2 b th) : ok_L_noticeAt q nb x ow ∧ th = (f_L_noticeAt q nb x ow).1 ∧ ((f_L_noticeAt q nb x ow).1 = 0 → (f_L_noticeAt q nb x ow).2 (0 : Int32).toNatClampNeg = b.toInt64) := by
  have eL : (f_L_noticeAt q nb x ow) = (if (f_X9_noticeAt q nb x).1 = "" then ((0 : Int32), (vp_updL ow (0 : Int32).toNatClampNeg (((f_X9_noticeAt q nb x).2).toInt64))) else (if (f_X9_noticeAt q nb x).1 = "java/lang/IndexOutOfBoundsException" then ((1 : Int32), ow) else (0, ow))) := rfl
  rcases RC_1 C with ⟨e1, e2, e3⟩ | ⟨e1, e2⟩
  · have eL := eL.trans (if_pos e1)
    refine ⟨by unfold ok_L_noticeAt; exact ⟨k1, (if_pos e1).mpr trivial⟩, ?_⟩
    rw [eL]
    exact ⟨e2, fun _ => (show vp_updL ow (0 : Int32).toNatClampNeg ((f_X9_noticeAt q nb x).2).toInt64 (0 : Int32).toNatClampNeg = _ from (updL_self _ _ _).trans (congrArg Int32.toInt64 e3))⟩
  · have eL := eL.trans ((if_neg (by rw [e1]; decide)).trans (if_pos e1))
    refine ⟨by unfold ok_L_noticeAt; exact ⟨k1, (if_neg (by rw [e1]; decide)).mpr ((if_pos e1).mpr trivial)⟩, ?_⟩
    rw [eL]
    exact ⟨e2, fun w => absurd (show (1 : Int32) = 0 from w) (by decide)⟩
theorem T_type (q : McV) (pg : PrV) (tb : SbV) (x : Int32) : (f_X9_type q pg tb x).1 = "" ∨ (f_X9_type q pg tb x).2.2 = tb := by
  unfold f_X9_type
  try dsimp only
  repeat' split
  all_goals first | exact Or.inl rfl | exact Or.inr rfl
theorem PL_type (q : McV) (pg : PrV) (tb : SbV) (x : Int32) (ow : Nat → Int64) (k1 : ok_X9_type q pg tb x) {b th : Int32} (C : RC ["java/lang/IllegalArgumentException", "java/lang/IllegalStateException"] (f_X9_type q pg tb x).1 (f_X9_type q pg tb x).2.1 b th) : ok_L_type q pg tb x ow ∧ th = (f_L_type q pg tb x ow).1 ∧ ((f_L_type q pg tb x ow).1 = 0 → (f_L_type q pg tb x ow).2.2 (0 : Int32).toNatClampNeg = b.toInt64) ∧ (f_L_type q pg tb x ow).2.1 = (f_X9_type q pg tb x).2.2 := by
  have eL : (f_L_type q pg tb x ow) = (if (f_X9_type q pg tb x).1 = "" then ((0 : Int32), (f_X9_type q pg tb x).2.2, (vp_updL ow (0 : Int32).toNatClampNeg (f_X9_type q pg tb x).2.1.toInt64)) else (if (f_X9_type q pg tb x).1 = "java/lang/IllegalArgumentException" then ((1 : Int32), tb, ow) else (if (f_X9_type q pg tb x).1 = "java/lang/IllegalStateException" then ((2 : Int32), tb, ow) else (0, tb, ow)))) := rfl
  rcases RC_2 C with ⟨e1, e2, e3⟩ | ⟨e1, e2⟩ | ⟨e1, e2⟩
  · have eL := eL.trans (if_pos e1)
    refine ⟨by unfold ok_L_type; exact ⟨k1, (if_pos e1).mpr trivial⟩, ?_⟩
    rw [eL]
    exact ⟨e2, fun _ => (show vp_updL ow (0 : Int32).toNatClampNeg ((f_X9_type q pg tb x).2.1).toInt64 (0 : Int32).toNatClampNeg = _ from (updL_self _ _ _).trans (congrArg Int32.toInt64 e3)), rfl⟩
  · have eL := eL.trans ((if_neg (by rw [e1]; decide)).trans (if_pos e1))
    refine ⟨by unfold ok_L_type; exact ⟨k1, (if_neg (by rw [e1]; decide)).mpr ((if_pos e1).mpr trivial)⟩, ?_⟩
    have hT := (T_type q pg tb x).resolve_left (by rw [e1]; decide)
    rw [eL]
    exact ⟨e2, fun w => absurd (show (1 : Int32) = 0 from w) (by decide), hT.symm⟩
  · have eL := eL.trans ((if_neg (by rw [e1]; decide)).trans ((if_neg (by rw [e1]; decide)).trans (if_pos e1)))
    refine ⟨by unfold ok_L_type; exact ⟨k1, (if_neg (by rw [e1]; decide)).mpr ((if_neg (by rw [e1]; decide)).mpr ((if_pos e1).mpr trivial))⟩, ?_⟩
    have hT := (T_type q pg tb x).resolve_left (by rw [e1]; decide)
    rw [eL]
    exact ⟨e2, fun w => absurd (show (2 : Int32) = 0 from w) (by decide), hT.symm⟩
theorem PL_execute (q : McV) (v : StV) (hi : HiV) (hs : Nat → StV) (pg : PrV) (tb : SbV) (ow : Nat → Int64) (k1 : ok_X9_execute q v hi hs pg tb) (k2 : nx9 hi.2) {b th : Int32} (C : RC ["java/lang/IllegalArgumentException", "java/lang/IllegalStateException"] (f_X9_execute q v hi hs pg tb).1 (f_X9_execute q v hi hs pg tb).2.1 b th) : ok_L_execute q v hi hs pg tb ow ∧ th = (f_L_execute q v hi hs pg tb ow).1 ∧ ((f_L_execute q v hi hs pg tb ow).1 = 0 → (f_L_execute q v hi hs pg tb ow).2.2.2.2.2.2.2 (0 : Int32).toNatClampNeg = b.toInt64) ∧ (f_L_execute q v hi hs pg tb ow).2.1 = (f_X9_execute q v hi hs pg tb).2.2.1 ∧ (f_L_execute q v hi hs pg tb ow).2.2.1 = (f_X9_execute q v hi hs pg tb).2.2.2.1 ∧ (f_L_execute q v hi hs pg tb ow).2.2.2.1 = (f_X9_execute q v hi hs pg tb).2.2.2.2.1 ∧ (f_L_execute q v hi hs pg tb ow).2.2.2.2.1 = (f_X9_execute q v hi hs pg tb).2.2.2.2.2.1 ∧ (f_L_execute q v hi hs pg tb ow).2.2.2.2.2.1 = (f_X9_execute q v hi hs pg tb).2.2.2.2.2.2.1 ∧ (f_L_execute q v hi hs pg tb ow).2.2.2.2.2.2.1 = (f_X9_execute q v hi hs pg tb).2.2.2.2.2.2.2 := by
  have eL : (f_L_execute q v hi hs pg tb ow) = (if (f_X9_execute q v hi hs pg tb).1 = "" then ((0 : Int32), (f_X9_execute q v hi hs pg tb).2.2.1, (f_X9_execute q v hi hs pg tb).2.2.2.1, (f_X9_execute q v hi hs pg tb).2.2.2.2.1, (f_X9_execute q v hi hs pg tb).2.2.2.2.2.1, (f_X9_execute q v hi hs pg tb).2.2.2.2.2.2.1, (f_X9_execute q v hi hs pg tb).2.2.2.2.2.2.2, (vp_updL ow (0 : Int32).toNatClampNeg (f_X9_execute q v hi hs pg tb).2.1.toInt64)) else (if (f_X9_execute q v hi hs pg tb).1 = "java/lang/IllegalArgumentException" then ((1 : Int32), (f_X9_execute q v hi hs pg tb).2.2.1, (f_X9_execute q v hi hs pg tb).2.2.2.1, (f_X9_execute q v hi hs pg tb).2.2.2.2.1, (f_X9_execute q v hi hs pg tb).2.2.2.2.2.1, (f_X9_execute q v hi hs pg tb).2.2.2.2.2.2.1, (f_X9_execute q v hi hs pg tb).2.2.2.2.2.2.2, ow) else (if (f_X9_execute q v hi hs pg tb).1 = "java/lang/IllegalStateException" then ((2 : Int32), (f_X9_execute q v hi hs pg tb).2.2.1, (f_X9_execute q v hi hs pg tb).2.2.2.1, (f_X9_execute q v hi hs pg tb).2.2.2.2.1, (f_X9_execute q v hi hs pg tb).2.2.2.2.2.1, (f_X9_execute q v hi hs pg tb).2.2.2.2.2.2.1, (f_X9_execute q v hi hs pg tb).2.2.2.2.2.2.2, ow) else (0, q, v, hi, hs, pg, tb, ow)))) := rfl
  have eO : ok_L_execute q v hi hs pg tb ow = (ok_X9_execute q v hi hs pg tb ∧ (nx9 hi.2 ∧ (∀ u_4 : String × Int32 × McV × StV × HiV × (Nat → StV) × PrV × SbV, u_4 = (f_X9_execute q v hi hs pg tb) → (if u_4.1 = "" then True else (if (f_X9_execute q v hi hs pg tb).1 = "java/lang/IllegalArgumentException" then True else (if (f_X9_execute q v hi hs pg tb).1 = "java/lang/IllegalStateException" then True else False)))))) := rfl
  rw [eO]
  generalize f_X9_execute q v hi hs pg tb = X at C eL ⊢
  rcases RC_2 C with ⟨e1, e2, e3⟩ | ⟨e1, e2⟩ | ⟨e1, e2⟩
  · have eL := eL.trans (if_pos e1)
    refine ⟨⟨k1, k2, fun u hu => by subst hu; exact (if_pos e1).mpr trivial⟩, ?_⟩
    rw [eL]
    exact ⟨e2, fun _ => (show vp_updL ow (0 : Int32).toNatClampNeg (X.2.1).toInt64 (0 : Int32).toNatClampNeg = _ from (updL_self _ _ _).trans (congrArg Int32.toInt64 e3)), rfl, rfl, rfl, rfl, rfl, rfl⟩
  · have eL := eL.trans ((if_neg (by rw [e1]; decide)).trans (if_pos e1))
    refine ⟨⟨k1, k2, fun u hu => by subst hu; exact (if_neg (by rw [e1]; decide)).mpr ((if_pos e1).mpr trivial)⟩, ?_⟩
    rw [eL]
    exact ⟨e2, fun w => absurd (show (1 : Int32) = 0 from w) (by decide), rfl, rfl, rfl, rfl, rfl, rfl⟩
  · have eL := eL.trans ((if_neg (by rw [e1]; decide)).trans ((if_neg (by rw [e1]; decide)).trans (if_pos e1)))
    refine ⟨⟨k1, k2, fun u hu => by subst hu; exact (if_neg (by rw [e1]; decide)).mpr ((if_neg (by rw [e1]; decide)).mpr ((if_pos e1).mpr trivial))⟩, ?_⟩
    rw [eL]
    exact ⟨e2, fun w => absurd (show (2 : Int32) = 0 from w) (by decide), rfl, rfl, rfl, rfl, rfl, rfl⟩
theorem PL_errorPosition (q : McV) (ow : Nat → Int64) {b th : Int32} (C : RC ["java/util/NoSuchElementException"] (f_X9_errorPosition q).1 (f_X9_errorPosition q).2 b th) : ok_L_errorPosition q ow ∧ th = (f_L_errorPosition q ow).1 ∧ ((f_L_errorPosition q ow).1 = 0 → (f_L_errorPosition q ow).2 (0 : Int32).toNatClampNeg = b.toInt64) := by
  have eL : (f_L_errorPosition q ow) = (if (f_X9_errorPosition q).1 = "" then ((0 : Int32), (vp_updL ow (0 : Int32).toNatClampNeg (((f_X9_errorPosition q).2).toInt64))) else (if (f_X9_errorPosition q).1 = "java/util/NoSuchElementException" then ((1 : Int32), ow) else (0, ow))) := rfl
  rcases RC_1 C with ⟨e1, e2, e3⟩ | ⟨e1, e2⟩
  · have eL := eL.trans (if_pos e1)
    refine ⟨by unfold ok_L_errorPosition; exact (if_pos e1).mpr trivial, ?_⟩
    rw [eL]
    exact ⟨e2, fun _ => (show vp_updL ow (0 : Int32).toNatClampNeg ((f_X9_errorPosition q).2).toInt64 (0 : Int32).toNatClampNeg = _ from (updL_self _ _ _).trans (congrArg Int32.toInt64 e3))⟩
  · have eL := eL.trans ((if_neg (by rw [e1]; decide)).trans (if_pos e1))
    refine ⟨by unfold ok_L_errorPosition; exact (if_neg (by rw [e1]; decide)).mpr ((if_pos e1).mpr trivial), ?_⟩
    rw [eL]
    exact ⟨e2, fun w => absurd (show (1 : Int32) = 0 from w) (by decide)⟩
theorem PL_failedCommand (q : McV) (ow : Nat → Int64) {b th : Int32} (C : RC ["java/util/NoSuchElementException"] (f_X9_failedCommand q).1 (f_X9_failedCommand q).2 b th) : ok_L_failedCommand q ow ∧ th = (f_L_failedCommand q ow).1 ∧ ((f_L_failedCommand q ow).1 = 0 → (f_L_failedCommand q ow).2 (0 : Int32).toNatClampNeg = b.toInt64) := by
  have eL : (f_L_failedCommand q ow) = (if (f_X9_failedCommand q).1 = "" then ((0 : Int32), (vp_updL ow (0 : Int32).toNatClampNeg (((f_X9_failedCommand q).2).toInt64))) else (if (f_X9_failedCommand q).1 = "java/util/NoSuchElementException" then ((1 : Int32), ow) else (0, ow))) := rfl
  rcases RC_1 C with ⟨e1, e2, e3⟩ | ⟨e1, e2⟩
  · have eL := eL.trans (if_pos e1)
    refine ⟨by unfold ok_L_failedCommand; exact (if_pos e1).mpr trivial, ?_⟩
    rw [eL]
    exact ⟨e2, fun _ => (show vp_updL ow (0 : Int32).toNatClampNeg ((f_X9_failedCommand q).2).toInt64 (0 : Int32).toNatClampNeg = _ from (updL_self _ _ _).trans (congrArg Int32.toInt64 e3))⟩
  · have eL := eL.trans ((if_neg (by rw [e1]; decide)).trans (if_pos e1))
    refine ⟨by unfold ok_L_failedCommand; exact (if_neg (by rw [e1]; decide)).mpr ((if_pos e1).mpr trivial), ?_⟩
    rw [eL]
    exact ⟨e2, fun w => absurd (show (1 : Int32) = 0 from w) (by decide)⟩
theorem T_undo (q : McV) (v : StV) (hi : HiV) (hs : Nat → StV) : (f_X9_undo q v hi hs).1 = "" ∨ (f_X9_undo q v hi hs).2.2 = (v, hi, hs) := by
  unfold f_X9_undo
  try dsimp only
  repeat' split
  all_goals first | exact Or.inl rfl | exact Or.inr rfl
theorem PL_undo (q : McV) (v : StV) (hi : HiV) (hs : Nat → StV) (ow : Nat → Int64) (k1 : ok_X9_undo q v hi hs) {b th : Int32} (C : RC ["java/lang/IllegalStateException"] (f_X9_undo q v hi hs).1 (f_X9_undo q v hi hs).2.1 b th) : ok_L_undo q v hi hs ow ∧ th = (f_L_undo q v hi hs ow).1 ∧ ((f_L_undo q v hi hs ow).1 = 0 → (f_L_undo q v hi hs ow).2.2.2.2 (0 : Int32).toNatClampNeg = b.toInt64) ∧ (f_L_undo q v hi hs ow).2.1 = (f_X9_undo q v hi hs).2.2.1 ∧ (f_L_undo q v hi hs ow).2.2.1 = (f_X9_undo q v hi hs).2.2.2.1 ∧ (f_L_undo q v hi hs ow).2.2.2.1 = (f_X9_undo q v hi hs).2.2.2.2 := by
  have eL : (f_L_undo q v hi hs ow) = (if (f_X9_undo q v hi hs).1 = "" then ((0 : Int32), (f_X9_undo q v hi hs).2.2.1, (f_X9_undo q v hi hs).2.2.2.1, (f_X9_undo q v hi hs).2.2.2.2, (vp_updL ow (0 : Int32).toNatClampNeg (f_X9_undo q v hi hs).2.1.toInt64)) else (if (f_X9_undo q v hi hs).1 = "java/lang/IllegalStateException" then ((1 : Int32), v, hi, hs, ow) else (0, v, hi, hs, ow))) := rfl
  rcases RC_1 C with ⟨e1, e2, e3⟩ | ⟨e1, e2⟩
  · have eL := eL.trans (if_pos e1)
    refine ⟨by unfold ok_L_undo; exact ⟨k1, (if_pos e1).mpr trivial⟩, ?_⟩
    rw [eL]
    exact ⟨e2, fun _ => (show vp_updL ow (0 : Int32).toNatClampNeg ((f_X9_undo q v hi hs).2.1).toInt64 (0 : Int32).toNatClampNeg = _ from (updL_self _ _ _).trans (congrArg Int32.toInt64 e3)), rfl, rfl, rfl⟩
  · have eL := eL.trans ((if_neg (by rw [e1]; decide)).trans (if_pos e1))
    refine ⟨by unfold ok_L_undo; exact ⟨k1, (if_neg (by rw [e1]; decide)).mpr ((if_pos e1).mpr trivial)⟩, ?_⟩
    have hT := (T_undo q v hi hs).resolve_left (by rw [e1]; decide)
    rw [eL]
    exact ⟨e2, fun w => absurd (show (1 : Int32) = 0 from w) (by decide), (congrArg (fun z => z.1) hT).symm, (congrArg (fun z => z.2.1) hT).symm, (congrArg (fun z => z.2.2) hT).symm⟩
theorem T_restore (q : McV) (v : StV) (o : StV) (hi : HiV) : (f_X9_restore q v o hi).1 = "" ∨ (f_X9_restore q v o hi).2.2 = (v, hi) := by
  unfold f_X9_restore
  try dsimp only
  repeat' split
  all_goals first | exact Or.inl rfl | exact Or.inr rfl
theorem PL_restore (q : McV) (v : StV) (o : StV) (hi : HiV) (ow : Nat → Int64) {b th : Int32} (C : RC ["java/lang/IllegalStateException"] (f_X9_restore q v o hi).1 (f_X9_restore q v o hi).2.1 b th) : ok_L_restore q v o hi ow ∧ th = (f_L_restore q v o hi ow).1 ∧ ((f_L_restore q v o hi ow).1 = 0 → (f_L_restore q v o hi ow).2.2.2 (0 : Int32).toNatClampNeg = b.toInt64) ∧ (f_L_restore q v o hi ow).2.1 = (f_X9_restore q v o hi).2.2.1 ∧ (f_L_restore q v o hi ow).2.2.1 = (f_X9_restore q v o hi).2.2.2 := by
  have eL : (f_L_restore q v o hi ow) = (if (f_X9_restore q v o hi).1 = "" then ((0 : Int32), (f_X9_restore q v o hi).2.2.1, (f_X9_restore q v o hi).2.2.2, (vp_updL ow (0 : Int32).toNatClampNeg (f_X9_restore q v o hi).2.1.toInt64)) else (if (f_X9_restore q v o hi).1 = "java/lang/IllegalStateException" then ((1 : Int32), v, hi, ow) else (0, v, hi, ow))) := rfl
  rcases RC_1 C with ⟨e1, e2, e3⟩ | ⟨e1, e2⟩
  · have eL := eL.trans (if_pos e1)
    refine ⟨by unfold ok_L_restore; exact (if_pos e1).mpr trivial, ?_⟩
    rw [eL]
    exact ⟨e2, fun _ => (show vp_updL ow (0 : Int32).toNatClampNeg ((f_X9_restore q v o hi).2.1).toInt64 (0 : Int32).toNatClampNeg = _ from (updL_self _ _ _).trans (congrArg Int32.toInt64 e3)), rfl, rfl⟩
  · have eL := eL.trans ((if_neg (by rw [e1]; decide)).trans (if_pos e1))
    refine ⟨by unfold ok_L_restore; exact (if_neg (by rw [e1]; decide)).mpr ((if_pos e1).mpr trivial), ?_⟩
    have hT := (T_restore q v o hi).resolve_left (by rw [e1]; decide)
    rw [eL]
    exact ⟨e2, fun w => absurd (show (1 : Int32) = 0 from w) (by decide), (congrArg (fun z => z.1) hT).symm, (congrArg (fun z => z.2) hT).symm⟩
