/-! ===== what is seen depends on the state alone ===== -/
theorem sq_44 (q q2 : McV) (v : StV)  : ∀ n x2 allL, lp_L_seen_44 q v  n x2 allL = lp_L_seen_44 q2 v  n x2 allL := by
  intro n
  induction n with
  | zero => intros; rfl
  | succ n ih =>
    intro x2 allL
    show (if (5 : Int32) ≤ x2 then (x2, allL) else (lp_L_seen_44 q v n (x2 + 1) (upd allL ((4 : Int32) + x2).toNatClampNeg ((f_X9_attemptsWith q v x2).2)))) = (if (5 : Int32) ≤ x2 then (x2, allL) else (lp_L_seen_44 q2 v n (x2 + 1) (upd allL ((4 : Int32) + x2).toNatClampNeg ((f_X9_attemptsWith q2 v x2).2))))
    simp only [ih]
    rfl
theorem sq_132 (q q2 : McV) (v : StV) (r_11 : Int32 × (Nat → Int32)) (x2 : Int32) (allL : Nat → Int32) : ∀ n x4 allL', lp_L_seen_132 q v r_11 x2 allL n x4 allL' = lp_L_seen_132 q2 v r_11 x2 allL n x4 allL' := by
  intro n
  induction n with
  | zero => intros; rfl
  | succ n ih =>
    intro x4 allL'
    show (if (8 : Int32) ≤ x4 then (x4, allL') else (lp_L_seen_132 q v r_11 x2 allL n (x4 + 1) (upd (upd allL' ((((10 : Int32) + ((20 : Int32) * x2)) + (4 : Int32)) + x4).toNatClampNeg ((f_X9_entriesOn q v x2 x4).2)) ((((10 : Int32) + ((20 : Int32) * x2)) + (12 : Int32)) + x4).toNatClampNeg ((f_X9_refusalsOn q v x2 x4).2)))) = (if (8 : Int32) ≤ x4 then (x4, allL') else (lp_L_seen_132 q2 v r_11 x2 allL n (x4 + 1) (upd (upd allL' ((((10 : Int32) + ((20 : Int32) * x2)) + (4 : Int32)) + x4).toNatClampNeg ((f_X9_entriesOn q2 v x2 x4).2)) ((((10 : Int32) + ((20 : Int32) * x2)) + (12 : Int32)) + x4).toNatClampNeg ((f_X9_refusalsOn q2 v x2 x4).2))))
    simp only [ih]
    rfl
theorem sq_132x (q q2 : McV) (v : StV) (r_11 : Int32 × (Nat → Int32)) (x2 : Int32) (allL : Nat → Int32) : ∀ n x4 allL', lp_L_seen_132' q v r_11 x2 allL n x4 allL' = lp_L_seen_132' q2 v r_11 x2 allL n x4 allL' := by
  intro n
  induction n with
  | zero => intros; rfl
  | succ n ih =>
    intro x4 allL'
    show (if (8 : Int32) ≤ x4 then (x4, allL') else (lp_L_seen_132' q v r_11 x2 allL n (x4 + 1) (upd (upd allL' ((((10 : Int32) + ((20 : Int32) * x2)) + (4 : Int32)) + x4).toNatClampNeg ((f_X9_entriesOn q v x2 x4).2)) ((((10 : Int32) + ((20 : Int32) * x2)) + (12 : Int32)) + x4).toNatClampNeg ((f_X9_refusalsOn q v x2 x4).2)))) = (if (8 : Int32) ≤ x4 then (x4, allL') else (lp_L_seen_132' q2 v r_11 x2 allL n (x4 + 1) (upd (upd allL' ((((10 : Int32) + ((20 : Int32) * x2)) + (4 : Int32)) + x4).toNatClampNeg ((f_X9_entriesOn q2 v x2 x4).2)) ((((10 : Int32) + ((20 : Int32) * x2)) + (12 : Int32)) + x4).toNatClampNeg ((f_X9_refusalsOn q2 v x2 x4).2))))
    simp only [ih]
    rfl
theorem sq_67 (q q2 : McV) (v : StV) (r_11 : Int32 × (Nat → Int32)) : ∀ n x2 allL, lp_L_seen_67 q v r_11 n x2 allL = lp_L_seen_67 q2 v r_11 n x2 allL := by
  intro n
  induction n with
  | zero => intros; rfl
  | succ n ih =>
    intro x2 allL
    show (if (f_X9_doorCount q v) ≤ x2 then (x2, allL) else (if (f_X9_isUnlocked q v x2).2 = (0 : Int32) then (let r_34 : Int32 × (Nat → Int32) := (lp_L_seen_132 q v r_11 x2 allL 9 (0 : Int32) (upd (upd (upd (upd allL ((10 : Int32) + ((20 : Int32) * x2)).toNatClampNeg ((f_X9_phasesOf q v x2).2)) (((10 : Int32) + ((20 : Int32) * x2)) + (1 : Int32)).toNatClampNeg ((f_X9_keyOf q v x2).2)) (((10 : Int32) + ((20 : Int32) * x2)) + (2 : Int32)).toNatClampNeg ((f_X9_hourCount q v x2).2)) (((10 : Int32) + ((20 : Int32) * x2)) + (3 : Int32)).toNatClampNeg (0 : Int32))); (lp_L_seen_67 q v r_11 n (x2 + 1) r_34.2)) else (let r_43 : Int32 × (Nat → Int32) := (lp_L_seen_132' q v r_11 x2 allL 9 (0 : Int32) (upd (upd (upd (upd allL ((10 : Int32) + ((20 : Int32) * x2)).toNatClampNeg ((f_X9_phasesOf q v x2).2)) (((10 : Int32) + ((20 : Int32) * x2)) + (1 : Int32)).toNatClampNeg ((f_X9_keyOf q v x2).2)) (((10 : Int32) + ((20 : Int32) * x2)) + (2 : Int32)).toNatClampNeg ((f_X9_hourCount q v x2).2)) (((10 : Int32) + ((20 : Int32) * x2)) + (3 : Int32)).toNatClampNeg (1 : Int32))); (lp_L_seen_67 q v r_11 n (x2 + 1) r_43.2)))) = (if (f_X9_doorCount q2 v) ≤ x2 then (x2, allL) else (if (f_X9_isUnlocked q2 v x2).2 = (0 : Int32) then (let r_34 : Int32 × (Nat → Int32) := (lp_L_seen_132 q2 v r_11 x2 allL 9 (0 : Int32) (upd (upd (upd (upd allL ((10 : Int32) + ((20 : Int32) * x2)).toNatClampNeg ((f_X9_phasesOf q2 v x2).2)) (((10 : Int32) + ((20 : Int32) * x2)) + (1 : Int32)).toNatClampNeg ((f_X9_keyOf q2 v x2).2)) (((10 : Int32) + ((20 : Int32) * x2)) + (2 : Int32)).toNatClampNeg ((f_X9_hourCount q2 v x2).2)) (((10 : Int32) + ((20 : Int32) * x2)) + (3 : Int32)).toNatClampNeg (0 : Int32))); (lp_L_seen_67 q2 v r_11 n (x2 + 1) r_34.2)) else (let r_43 : Int32 × (Nat → Int32) := (lp_L_seen_132' q2 v r_11 x2 allL 9 (0 : Int32) (upd (upd (upd (upd allL ((10 : Int32) + ((20 : Int32) * x2)).toNatClampNeg ((f_X9_phasesOf q2 v x2).2)) (((10 : Int32) + ((20 : Int32) * x2)) + (1 : Int32)).toNatClampNeg ((f_X9_keyOf q2 v x2).2)) (((10 : Int32) + ((20 : Int32) * x2)) + (2 : Int32)).toNatClampNeg ((f_X9_hourCount q2 v x2).2)) (((10 : Int32) + ((20 : Int32) * x2)) + (3 : Int32)).toNatClampNeg (1 : Int32))); (lp_L_seen_67 q2 v r_11 n (x2 + 1) r_43.2))))
    simp only [ih, sq_132 q q2 v, sq_132x q q2 v]
    rfl
theorem sq_208 (q q2 : McV) (v : StV) (r_11 : Int32 × (Nat → Int32)) (r_44 : Int32 × (Nat → Int32)) (x2 : Int32) (allL : Nat → Int32) : ∀ n x3 allL', lp_L_seen_208 q v r_11 r_44 x2 allL n x3 allL' = lp_L_seen_208 q2 v r_11 r_44 x2 allL n x3 allL' := by
  intro n
  induction n with
  | zero => intros; rfl
  | succ n ih =>
    intro x3 allL'
    show (if (8 : Int32) ≤ x3 then (x3, allL') else (if (f_X9_hasKey q v x2 x3).2 = (0 : Int32) then (lp_L_seen_208 q v r_11 r_44 x2 allL n (x3 + 1) (upd allL' ((171 : Int32) + ((2 : Int32) * x2)).toNatClampNeg ((allL' ((171 : Int32) + ((2 : Int32) * x2)).toNatClampNeg) + (0 : Int32)))) else (lp_L_seen_208 q v r_11 r_44 x2 allL n (x3 + 1) (upd allL' ((171 : Int32) + ((2 : Int32) * x2)).toNatClampNeg ((allL' ((171 : Int32) + ((2 : Int32) * x2)).toNatClampNeg) + ((1 : Int32) <<< (x3 &&& 31))))))) = (if (8 : Int32) ≤ x3 then (x3, allL') else (if (f_X9_hasKey q2 v x2 x3).2 = (0 : Int32) then (lp_L_seen_208 q2 v r_11 r_44 x2 allL n (x3 + 1) (upd allL' ((171 : Int32) + ((2 : Int32) * x2)).toNatClampNeg ((allL' ((171 : Int32) + ((2 : Int32) * x2)).toNatClampNeg) + (0 : Int32)))) else (lp_L_seen_208 q2 v r_11 r_44 x2 allL n (x3 + 1) (upd allL' ((171 : Int32) + ((2 : Int32) * x2)).toNatClampNeg ((allL' ((171 : Int32) + ((2 : Int32) * x2)).toNatClampNeg) + ((1 : Int32) <<< (x3 &&& 31)))))))
    simp only [ih]
    rfl
theorem sq_184 (q q2 : McV) (v : StV) (r_11 : Int32 × (Nat → Int32)) (r_44 : Int32 × (Nat → Int32)) : ∀ n x2 allL, lp_L_seen_184 q v r_11 r_44 n x2 allL = lp_L_seen_184 q2 v r_11 r_44 n x2 allL := by
  intro n
  induction n with
  | zero => intros; rfl
  | succ n ih =>
    intro x2 allL
    show (if (f_X9_personCount q v) ≤ x2 then (x2, allL) else (let r_57 : Int32 × (Nat → Int32) := (lp_L_seen_208 q v r_11 r_44 x2 allL 9 (0 : Int32) (upd allL ((170 : Int32) + ((2 : Int32) * x2)).toNatClampNeg ((f_X9_entriesOf q v x2).2))); (lp_L_seen_184 q v r_11 r_44 n (x2 + 1) r_57.2))) = (if (f_X9_personCount q2 v) ≤ x2 then (x2, allL) else (let r_57 : Int32 × (Nat → Int32) := (lp_L_seen_208 q2 v r_11 r_44 x2 allL 9 (0 : Int32) (upd allL ((170 : Int32) + ((2 : Int32) * x2)).toNatClampNeg ((f_X9_entriesOf q2 v x2).2))); (lp_L_seen_184 q2 v r_11 r_44 n (x2 + 1) r_57.2)))
    simp only [ih, sq_208 q q2 v]
    rfl
theorem sq_256 (q q2 : McV) (v : StV) (r_11 : Int32 × (Nat → Int32)) (r_44 : Int32 × (Nat → Int32)) (r_58 : Int32 × (Nat → Int32)) : ∀ n x2 allL, lp_L_seen_256 q v r_11 r_44 r_58 n x2 allL = lp_L_seen_256 q2 v r_11 r_44 r_58 n x2 allL := by
  intro n
  induction n with
  | zero => intros; rfl
  | succ n ih =>
    intro x2 allL
    show (if (f_X9_exceptionCount q v) ≤ x2 then (x2, allL) else (lp_L_seen_256 q v r_11 r_44 r_58 n (x2 + 1) (upd (upd allL ((184 : Int32) + ((2 : Int32) * x2)).toNatClampNeg ((f_X9_exceptionDay q v x2).2)) ((185 : Int32) + ((2 : Int32) * x2)).toNatClampNeg ((f_X9_exceptionDoor q v x2).2)))) = (if (f_X9_exceptionCount q2 v) ≤ x2 then (x2, allL) else (lp_L_seen_256 q2 v r_11 r_44 r_58 n (x2 + 1) (upd (upd allL ((184 : Int32) + ((2 : Int32) * x2)).toNatClampNeg ((f_X9_exceptionDay q2 v x2).2)) ((185 : Int32) + ((2 : Int32) * x2)).toNatClampNeg ((f_X9_exceptionDoor q2 v x2).2))))
    simp only [ih]
    rfl
theorem sq_300 (q q2 : McV) (v : StV) (r_11 : Int32 × (Nat → Int32)) (r_44 : Int32 × (Nat → Int32)) (r_58 : Int32 × (Nat → Int32)) (r_67 : Int32 × (Nat → Int32)) : ∀ n x2 allL, lp_L_seen_300 q v r_11 r_44 r_58 r_67 n x2 allL = lp_L_seen_300 q2 v r_11 r_44 r_58 r_67 n x2 allL := by
  intro n
  induction n with
  | zero => intros; rfl
  | succ n ih =>
    intro x2 allL
    show (if (10 : Int32) ≤ x2 then (x2, allL) else (let uu_71 : Int32 := (f_L_loggedResult q v x2); (if uu_71 < (0 : Int32) then (x2, allL) else (lp_L_seen_300 q v r_11 r_44 r_58 r_67 n (x2 + 1) (upd (upd (upd allL ((210 : Int32) + ((3 : Int32) * x2)).toNatClampNeg ((f_X9_loggedPerson q v x2).2)) ((211 : Int32) + ((3 : Int32) * x2)).toNatClampNeg ((f_X9_loggedDoor q v x2).2)) ((212 : Int32) + ((3 : Int32) * x2)).toNatClampNeg ((1 : Int32) + (f_X9_loggedResult q v x2).2)))))) = (if (10 : Int32) ≤ x2 then (x2, allL) else (let uu_71 : Int32 := (f_L_loggedResult q2 v x2); (if uu_71 < (0 : Int32) then (x2, allL) else (lp_L_seen_300 q2 v r_11 r_44 r_58 r_67 n (x2 + 1) (upd (upd (upd allL ((210 : Int32) + ((3 : Int32) * x2)).toNatClampNeg ((f_X9_loggedPerson q2 v x2).2)) ((211 : Int32) + ((3 : Int32) * x2)).toNatClampNeg ((f_X9_loggedDoor q2 v x2).2)) ((212 : Int32) + ((3 : Int32) * x2)).toNatClampNeg ((1 : Int32) + (f_X9_loggedResult q2 v x2).2))))))
    simp only [ih]
    rfl
theorem sq_366 (q q2 : McV) (v : StV) (r_11 : Int32 × (Nat → Int32)) (r_44 : Int32 × (Nat → Int32)) (r_58 : Int32 × (Nat → Int32)) (r_67 : Int32 × (Nat → Int32)) (r_82 : Int32 × (Nat → Int32)) : ∀ n x2 allL, lp_L_seen_366 q v r_11 r_44 r_58 r_67 r_82 n x2 allL = lp_L_seen_366 q2 v r_11 r_44 r_58 r_67 r_82 n x2 allL := by
  intro n
  induction n with
  | zero => intros; rfl
  | succ n ih =>
    intro x2 allL
    show (if (16 : Int32) ≤ x2 then (x2, allL) else (lp_L_seen_366 q v r_11 r_44 r_58 r_67 r_82 n (x2 + 1) (upd allL ((242 : Int32) + x2).toNatClampNeg ((f_X9_phaseOn q v ((2 : Int32) * x2)).2)))) = (if (16 : Int32) ≤ x2 then (x2, allL) else (lp_L_seen_366 q2 v r_11 r_44 r_58 r_67 r_82 n (x2 + 1) (upd allL ((242 : Int32) + x2).toNatClampNeg ((f_X9_phaseOn q2 v ((2 : Int32) * x2)).2))))
    simp only [ih]
    rfl
theorem seen_q (q q2 : McV) (v : StV) : f_L_seen q v = f_L_seen q2 v := by
  show (let r_11 : Int32 × (Nat → Int32) := (lp_L_seen_44 q v 6 (0 : Int32) (upd (upd (upd (upd (fun _ => 0) (0 : Int32).toNatClampNeg (((24 : Int32) * (f_X9_day q v)) + (f_X9_hour q v))) (1 : Int32).toNatClampNeg (f_X9_doorCount q v)) (2 : Int32).toNatClampNeg (f_X9_personCount q v)) (3 : Int32).toNatClampNeg (f_X9_exceptionCount q v))); (let r_44 : Int32 × (Nat → Int32) := (lp_L_seen_67 q v r_11 9 (0 : Int32) r_11.2); (let r_58 : Int32 × (Nat → Int32) := (lp_L_seen_184 q v r_11 r_44 7 (0 : Int32) r_44.2); (let r_67 : Int32 × (Nat → Int32) := (lp_L_seen_256 q v r_11 r_44 r_58 13 (0 : Int32) r_58.2); (let r_82 : Int32 × (Nat → Int32) := (lp_L_seen_300 q v r_11 r_44 r_58 r_67 11 (0 : Int32) r_67.2); (let r_87 : Int32 × (Nat → Int32) := (lp_L_seen_366 q v r_11 r_44 r_58 r_67 r_82 17 (0 : Int32) r_82.2); (260, r_87.2))))))) = (let r_11 : Int32 × (Nat → Int32) := (lp_L_seen_44 q2 v 6 (0 : Int32) (upd (upd (upd (upd (fun _ => 0) (0 : Int32).toNatClampNeg (((24 : Int32) * (f_X9_day q2 v)) + (f_X9_hour q2 v))) (1 : Int32).toNatClampNeg (f_X9_doorCount q2 v)) (2 : Int32).toNatClampNeg (f_X9_personCount q2 v)) (3 : Int32).toNatClampNeg (f_X9_exceptionCount q2 v))); (let r_44 : Int32 × (Nat → Int32) := (lp_L_seen_67 q2 v r_11 9 (0 : Int32) r_11.2); (let r_58 : Int32 × (Nat → Int32) := (lp_L_seen_184 q2 v r_11 r_44 7 (0 : Int32) r_44.2); (let r_67 : Int32 × (Nat → Int32) := (lp_L_seen_256 q2 v r_11 r_44 r_58 13 (0 : Int32) r_58.2); (let r_82 : Int32 × (Nat → Int32) := (lp_L_seen_300 q2 v r_11 r_44 r_58 r_67 11 (0 : Int32) r_67.2); (let r_87 : Int32 × (Nat → Int32) := (lp_L_seen_366 q2 v r_11 r_44 r_58 r_67 r_82 17 (0 : Int32) r_82.2); (260, r_87.2)))))))
  simp only [sq_44 q q2 v, sq_132 q q2 v, sq_132x q q2 v, sq_67 q q2 v, sq_208 q q2 v, sq_184 q q2 v, sq_256 q q2 v, sq_300 q q2 v, sq_366 q q2 v]
  rfl
