/-! ===== the calls that only read: class against reference ===== -/
theorem L10 : ((1 : Int32) = 0) = False := eq_false (by decide)
theorem L01 : ((0 : Int32) = 1) = False := eq_false (by decide)
theorem S1 : (("java/lang/IndexOutOfBoundsException" : String) = "") = False := eq_false (by decide)
theorem S2 : (("java/lang/IllegalArgumentException" : String) = "") = False := eq_false (by decide)
theorem S3 : (("java/lang/UnsupportedOperationException" : String) = "") = False := eq_false (by decide)
theorem S4 : (("java/lang/IllegalStateException" : String) = "") = False := eq_false (by decide)
theorem S5 : (("java/util/NoSuchElementException" : String) = "") = False := eq_false (by decide)
theorem tf0 : f_X9_throwFor 0 = "" := rfl
theorem tf1 : f_X9_throwFor 1 = "java/lang/IndexOutOfBoundsException" := rfl
theorem tf2 : f_X9_throwFor 2 = "java/lang/IllegalArgumentException" := rfl
theorem tf3 : f_X9_throwFor 3 = "java/lang/UnsupportedOperationException" := rfl
theorem tf4 : f_X9_throwFor 4 = "java/lang/IllegalStateException" := rfl
theorem tf5 : f_X9_throwFor 5 = "java/util/NoSuchElementException" := rfl
theorem g_door {B : Nat} {q : McV} {v sn : StV} {hi : HiV} {hs : Nat → StV} {tb nt : SbV} {d : MoV} (h : RW B q v sn hi hs tb nt d) (x : Int32) (xs : List String) (A : String × Int32) (M : Int32 × MoV) (O : Prop) (K : ∀ j, j < 8 → x = nI j → O ∧ RC ("java/lang/IndexOutOfBoundsException" :: xs) A.1 A.2 M.1 M.2.2.2.2.2.2.1 ∧ RW B q v sn hi hs tb nt M.2) :
    (if f_X10_isDoor d x = 0 then True else O) ∧ RC ("java/lang/IndexOutOfBoundsException" :: xs) (if f_X9_requireDoor q v x = "" then A else (f_X9_requireDoor q v x, 0)).1 (if f_X9_requireDoor q v x = "" then A else (f_X9_requireDoor q v x, 0)).2 (if f_X10_isDoor d x = 0 then ((0 : Int32), mo5 d 1) else M).1 (if f_X10_isDoor d x = 0 then ((0 : Int32), mo5 d 1) else M).2.2.2.2.2.2.1 ∧ RW B q v sn hi hs tb nt (if f_X10_isDoor d x = 0 then ((0 : Int32), mo5 d 1) else M).2 := by
  obtain ⟨t, c, ht, hc, hc2, e1, e2, e3, e4, hD, hE, hP, hA⟩ := id h.1
  obtain ⟨nd, d1, d2, d3, d4⟩ := id hD
  unfold f_X9_requireDoor
  rw [m_door hD]
  rcases h_do v.2.2.1 d1 d2 x with e | ⟨e, j, hj, g⟩
  · rw [e, if_pos rfl, if_pos rfl, if_neg (show ¬ "java/lang/IndexOutOfBoundsException" = "" by decide), if_pos rfl]
    exact ⟨trivial, RC.x1 (by decide), h.thr 1⟩
  · rw [e, if_neg (show ¬ (1 : Int32) = 0 by decide), if_neg (show ¬ (1 : Int32) = 0 by decide), if_pos rfl, if_neg (show ¬ (1 : Int32) = 0 by decide)]
    exact K j (by omega) g
theorem g_pers {B : Nat} {q : McV} {v sn : StV} {hi : HiV} {hs : Nat → StV} {tb nt : SbV} {d : MoV} (h : RW B q v sn hi hs tb nt d) (x : Int32) (xs : List String) (A : String × Int32) (M : Int32 × MoV) (O : Prop) (K : ∀ j, j < 6 → x = nI j → O ∧ RC ("java/lang/IndexOutOfBoundsException" :: xs) A.1 A.2 M.1 M.2.2.2.2.2.2.1 ∧ RW B q v sn hi hs tb nt M.2) :
    (if f_X10_isPerson d x = 0 then True else O) ∧ RC ("java/lang/IndexOutOfBoundsException" :: xs) (if f_X9_requirePerson q v x = "" then A else (f_X9_requirePerson q v x, 0)).1 (if f_X9_requirePerson q v x = "" then A else (f_X9_requirePerson q v x, 0)).2 (if f_X10_isPerson d x = 0 then ((0 : Int32), mo5 d 1) else M).1 (if f_X10_isPerson d x = 0 then ((0 : Int32), mo5 d 1) else M).2.2.2.2.2.2.1 ∧ RW B q v sn hi hs tb nt (if f_X10_isPerson d x = 0 then ((0 : Int32), mo5 d 1) else M).2 := by
  obtain ⟨t, c, ht, hc, hc2, e1, e2, e3, e4, hD, hE, hP, hA⟩ := id h.1
  obtain ⟨nd, d1, d2, d3, d4⟩ := id hP
  unfold f_X9_requirePerson
  rw [m_person hP]
  rcases h_pe v.2.2.2.2.1 d1 d2 x with e | ⟨e, j, hj, g⟩
  · rw [e, if_pos rfl, if_pos rfl, if_neg (show ¬ "java/lang/IndexOutOfBoundsException" = "" by decide), if_pos rfl]
    exact ⟨trivial, RC.x1 (by decide), h.thr 1⟩
  · rw [e, if_neg (show ¬ (1 : Int32) = 0 by decide), if_neg (show ¬ (1 : Int32) = 0 by decide), if_pos rfl, if_neg (show ¬ (1 : Int32) = 0 by decide)]
    exact K j (by omega) g
/-- a range that both test -/
theorem g_rng (x lo hi : Int32) : f_X9_requireRange x lo hi = "java/lang/IllegalArgumentException" ∧ f_X10_isIn x lo hi = 0 ∨ f_X9_requireRange x lo hi = "" ∧ f_X10_isIn x lo hi = 1 ∧ ¬ x < lo ∧ x ≤ hi := by
  unfold f_X9_requireRange f_X10_isIn
  by_cases h1 : x < lo
  · left; rw [if_pos h1, if_pos h1]; exact ⟨rfl, rfl⟩
  · by_cases h2 : x ≤ hi
    · right; rw [if_neg h1, if_neg h1, if_pos h2, if_neg (Int32.not_lt.mpr h2)]; exact ⟨rfl, rfl, h1, h2⟩
    · left; rw [if_neg h1, if_neg h1, if_neg h2, if_pos (Int32.not_le.mp h2)]; exact ⟨rfl, rfl⟩
theorem g_nat {x : Int32} {lo n : Nat} (hn : n < 2 ^ 31) (hl : lo ≤ n) (h1 : ¬ x < nI lo) (h2 : x ≤ nI n) : ∃ j, lo ≤ j ∧ j ≤ n ∧ x = nI j := by
  have a2 := Int32.le_iff_toInt_le.mp h2
  have a1 := Int32.le_iff_toInt_le.mp (Int32.not_lt.mp h1)
  rw [nI_toInt hn] at a2
  rw [nI_toInt (by omega)] at a1
  have h0 : ¬ x < 0 := by
    rw [Int32.lt_iff_toInt_lt, show (0 : Int32).toInt = 0 from rfl]; omega
  obtain ⟨j, hj, rfl⟩ := nI_of h0
  rw [nI_toInt hj] at a1 a2
  exact ⟨j, by omega, by omega, rfl⟩
theorem R_doorCount {B : Nat} {q : McV} {v sn : StV} {hi : HiV} {hs : Nat → StV} {tb nt : SbV} {d : MoV} (h : RW B q v sn hi hs tb nt d) : (f_X9_doorCount q v) = (f_X10_doorCount d).1 ∧ (f_X10_doorCount d).2.2.2.2.2.2.1 = 0 ∧ RW B q v sn hi hs tb nt (f_X10_doorCount d).2 := by
  obtain ⟨t, c, ht, hc, hc2, e1, e2, e3, e4, hD, hE, hP, hA⟩ := id h.1
  obtain ⟨n, n1, n2, n3, -⟩ := id hD
  exact ⟨n2.trans n3.symm, rfl, h.thr 0⟩
theorem R_exceptionCount {B : Nat} {q : McV} {v sn : StV} {hi : HiV} {hs : Nat → StV} {tb nt : SbV} {d : MoV} (h : RW B q v sn hi hs tb nt d) : (f_X9_exceptionCount q v) = (f_X10_exceptionCount d).1 ∧ (f_X10_exceptionCount d).2.2.2.2.2.2.1 = 0 ∧ RW B q v sn hi hs tb nt (f_X10_exceptionCount d).2 := by
  obtain ⟨t, c, ht, hc, hc2, e1, e2, e3, e4, hD, hE, hP, hA⟩ := id h.1
  obtain ⟨n, n1, n2, n3, -⟩ := id hE
  exact ⟨n2.trans n3.symm, rfl, h.thr 0⟩
theorem R_personCount {B : Nat} {q : McV} {v sn : StV} {hi : HiV} {hs : Nat → StV} {tb nt : SbV} {d : MoV} (h : RW B q v sn hi hs tb nt d) : (f_X9_personCount q v) = (f_X10_personCount d).1 ∧ (f_X10_personCount d).2.2.2.2.2.2.1 = 0 ∧ RW B q v sn hi hs tb nt (f_X10_personCount d).2 := by
  obtain ⟨t, c, ht, hc, hc2, e1, e2, e3, e4, hD, hE, hP, hA⟩ := id h.1
  obtain ⟨n, n1, n2, n3, -⟩ := id hP
  exact ⟨n2.trans n3.symm, rfl, h.thr 0⟩
theorem R_day {B : Nat} {q : McV} {v sn : StV} {hi : HiV} {hs : Nat → StV} {tb nt : SbV} {d : MoV} (h : RW B q v sn hi hs tb nt d) (hB : B < 2 ^ 30) : (f_X9_day q v) = (f_X10_day d).1 ∧ (f_X10_day d).2.2.2.2.2.2.1 = 0 ∧ RW B q v sn hi hs tb nt (f_X10_day d).2 := by
  obtain ⟨t, c, ht, hc, hc2, e1, e2, e3, e4, hD, hE, hP, hA⟩ := id h.1
  exact ⟨(c_today e1 (by omega)).trans (m_today (d := mo5 d 0) e2 (by omega)).symm, rfl, h.thr 0⟩
theorem R_hour {B : Nat} {q : McV} {v sn : StV} {hi : HiV} {hs : Nat → StV} {tb nt : SbV} {d : MoV} (h : RW B q v sn hi hs tb nt d) (hB : B < 2 ^ 30) : (f_X9_hour q v) = (f_X10_hour d).1 ∧ (f_X10_hour d).2.2.2.2.2.2.1 = 0 ∧ RW B q v sn hi hs tb nt (f_X10_hour d).2 := by
  obtain ⟨t, c, ht, hc, hc2, e1, e2, e3, e4, hD, hE, hP, hA⟩ := id h.1
  refine ⟨(c_hour e1 (by omega)).trans ?_, rfl, h.thr 0⟩
  show _ = d.1 (0 : Int32).toNatClampNeg - d.1 (0 : Int32).toNatClampNeg / 24 * 24
  rw [show ((0 : Int32).toNatClampNeg) = 0 from rfl, e2, q_24]
  exact (n_rem (by omega) (by decide) (by decide)).symm
theorem R_phasesOf {B : Nat} {q : McV} {v sn : StV} {hi : HiV} {hs : Nat → StV} {tb nt : SbV} {d : MoV} (h : RW B q v sn hi hs tb nt d) (x : Int32) : ok_X10_phasesOf d x ∧ RC ["java/lang/IndexOutOfBoundsException"] (f_X9_phasesOf q v x).1 (f_X9_phasesOf q v x).2 (f_X10_phasesOf d x).1 (f_X10_phasesOf d x).2.2.2.2.2.2.1 ∧ RW B q v sn hi hs tb nt (f_X10_phasesOf d x).2 := by
  obtain ⟨t, c, ht, hc, hc2, e1, e2, e3, e4, hD, hE, hP, hA⟩ := id h.1
  refine g_door h x [] ("", f_X2_phaseSetFor v.2.2.1 x) (f_X10_of (mo5 d 0) x 0, mo5 d 0) (ok_X10_of (mo5 d 0) x 0 ∧ True) (fun j hj e => ?_)
  subst e
  obtain ⟨a1, a2⟩ := m_of (mo5 d 0) hj (w := 0) (by decide)
  refine ⟨⟨a2, trivial⟩, RC.ok ?_, h.thr 0⟩
  unfold f_X2_phaseSetFor
  rw [n_at _ hj (by decide), (hD.get hj).1]
  exact a1.symm
theorem R_keyOf {B : Nat} {q : McV} {v sn : StV} {hi : HiV} {hs : Nat → StV} {tb nt : SbV} {d : MoV} (h : RW B q v sn hi hs tb nt d) (x : Int32) : ok_X10_keyOf d x ∧ RC ["java/lang/IndexOutOfBoundsException"] (f_X9_keyOf q v x).1 (f_X9_keyOf q v x).2 (f_X10_keyOf d x).1 (f_X10_keyOf d x).2.2.2.2.2.2.1 ∧ RW B q v sn hi hs tb nt (f_X10_keyOf d x).2 := by
  obtain ⟨t, c, ht, hc, hc2, e1, e2, e3, e4, hD, hE, hP, hA⟩ := id h.1
  refine g_door h x [] ("", f_X2_keyFor v.2.2.1 x) (f_X10_of (mo5 d 0) x 3, mo5 d 0) (ok_X10_of (mo5 d 0) x 3 ∧ True) (fun j hj e => ?_)
  subst e
  obtain ⟨a1, a2, -⟩ := c_key (d := mo5 d 0) hD hj
  exact ⟨⟨a2, trivial⟩, RC.ok a1, h.thr 0⟩
def ownLp (b c : Int32) : Nat → Int32 → Int32 → Int32
  | 0, _, _ => 0
  | n + 1, x, a => if (24 : Int32) ≤ x then a else if (if c < b then (if b ≤ x then (1 : Int32) else (if c < x then (0 : Int32) else (1 : Int32))) else (f_X10_isIn x b c)) = 0 then ownLp b c n (x + 1) (a + 0) else ownLp b c n (x + 1) (a + 1)
theorem ownLp_eq : ∀ b, b < 24 → ∀ c, c < 24 → ownLp (nI b) (nI c) 25 0 0 = f_J9_floorMod_7cf53 (nI c - nI b) 24 + 1 := by decide +kernel
theorem m_own {v : DoV} {d : MoV} (h : RD v d.1) {j : Nat} (hj : j < 8) : ∀ (n : Nat) (x a : Int32), lp_X10_ownHours_4 d (nI j) n x a = ownLp (d.1 (11 + 4 * j + 1)) (d.1 (11 + 4 * j + 2)) n x a ∧ okl_lp_X10_ownHours_4 d (nI j) n x a := by
  obtain ⟨g1, g2⟩ := m_of d hj (w := 1) (by decide)
  obtain ⟨g3, g4⟩ := m_of d hj (w := 2) (by decide)
  have g1 : f_X10_of d (nI j) 1 = _ := g1
  have g3 : f_X10_of d (nI j) 2 = _ := g3
  have E : ∀ x, f_X10_isOwnHour d (nI j) x = (if d.1 (11 + 4 * j + 2) < d.1 (11 + 4 * j + 1) then (if d.1 (11 + 4 * j + 1) ≤ x then (1 : Int32) else (if d.1 (11 + 4 * j + 2) < x then (0 : Int32) else (1 : Int32))) else (f_X10_isIn x (d.1 (11 + 4 * j + 1)) (d.1 (11 + 4 * j + 2)))) := fun x => by
    unfold f_X10_isOwnHour
    rw [g1, g3]
  intro n
  induction n with
  | zero => intro x a; exact ⟨rfl, trivial⟩
  | succ n ih =>
    intro x a
    unfold lp_X10_ownHours_4 okl_lp_X10_ownHours_4 ownLp
    refine ⟨?_, ?_⟩
    · rw [E x, (ih (x + 1) (a + 0)).1, (ih (x + 1) (a + 1)).1]
    · split
      · trivial
      · refine ⟨(c_chr h hj x).2, ?_⟩
        split
        · exact (ih _ _).2
        · exact (ih _ _).2
theorem c_hrs {v : DoV} {d : MoV} (h : RD v d.1) {j : Nat} (hj : j < 8) : f_X2_countHours v (nI j) = f_X10_ownHours d (nI j) ∧ ok_X10_ownHours d (nI j) := by
  refine ⟨?_, (m_own h hj _ _ _).2⟩
  have e : f_X10_ownHours d (nI j) = _ := (m_own h hj 25 0 0).1
  rw [e]
  obtain ⟨n, -, -, -, h4⟩ := id h
  obtain ⟨a, b, c, k, -, hb, hc, -, r1, r2, r3, r4, r5, r6, r7, r8⟩ := h4 j hj
  unfold f_X2_countHours
  rw [n_at _ hj (by decide), n_at _ hj (by decide), r2, r3, r6, r7]
  exact (ownLp_eq b hb c hc).symm
theorem R_hourCount {B : Nat} {q : McV} {v sn : StV} {hi : HiV} {hs : Nat → StV} {tb nt : SbV} {d : MoV} (h : RW B q v sn hi hs tb nt d) (x : Int32) : ok_X10_hourCount d x ∧ RC ["java/lang/IndexOutOfBoundsException"] (f_X9_hourCount q v x).1 (f_X9_hourCount q v x).2 (f_X10_hourCount d x).1 (f_X10_hourCount d x).2.2.2.2.2.2.1 ∧ RW B q v sn hi hs tb nt (f_X10_hourCount d x).2 := by
  obtain ⟨t, c, ht, hc, hc2, e1, e2, e3, e4, hD, hE, hP, hA⟩ := id h.1
  refine g_door h x [] ("", f_X2_countHours v.2.2.1 x) (f_X10_ownHours (mo5 d 0) x, mo5 d 0) (ok_X10_ownHours (mo5 d 0) x ∧ True) (fun j hj e => ?_)
  subst e
  obtain ⟨a1, a2⟩ := c_hrs (d := mo5 d 0) hD hj
  exact ⟨⟨a2, trivial⟩, RC.ok a1, h.thr 0⟩
theorem own01 (d : MoV) (x y : Int32) : f_X10_isOwnHour d x y = 0 ∨ f_X10_isOwnHour d x y = 1 := by
  unfold f_X10_isOwnHour f_X10_isIn
  simp only []
  split
  · split
    · exact Or.inr rfl
    · split
      · exact Or.inl rfl
      · exact Or.inr rfl
  · split
    · exact Or.inl rfl
    · split
      · exact Or.inl rfl
      · exact Or.inr rfl
theorem R_isHourOf {B : Nat} {q : McV} {v sn : StV} {hi : HiV} {hs : Nat → StV} {tb nt : SbV} {d : MoV} (h : RW B q v sn hi hs tb nt d) (x y : Int32) : ok_X10_isHourOf d x y ∧ RC ["java/lang/IndexOutOfBoundsException", "java/lang/IllegalArgumentException"] (f_X9_isHourOf q v x y).1 (f_X9_isHourOf q v x y).2 (f_X10_isHourOf d x y).1 (f_X10_isHourOf d x y).2.2.2.2.2.2.1 ∧ RW B q v sn hi hs tb nt (f_X10_isHourOf d x y).2 := by
  obtain ⟨t, c, ht, hc, hc2, e1, e2, e3, e4, hD, hE, hP, hA⟩ := id h.1
  refine g_door h x ["java/lang/IllegalArgumentException"] (if f_X9_requireRange y 0 23 = "" then ("", f_X2_containsHour v.2.2.1 x y) else (f_X9_requireRange y 0 23, 0)) (if f_X10_isIn y 0 23 = 0 then (0, mo5 d 2) else if f_X10_isOwnHour (mo5 d 0) x y = 0 then (0, mo5 d 0) else (1, mo5 d 0)) (if f_X10_isIn y 0 23 = 0 then True else ok_X10_isOwnHour (mo5 d 0) x y ∧ True) (fun j hj e => ?_)
  subst e
  rcases g_rng y 0 23 with ⟨r1, r2⟩ | ⟨r1, r2, r3, r4⟩
  · rw [r1, r2, if_pos rfl, if_neg (by decide), if_pos rfl]
    exact ⟨trivial, RC.x2 (by decide), h.thr 2⟩
  · rw [r1, r2, if_neg (by decide), if_pos rfl, if_neg (by decide)]
    obtain ⟨a1, a2⟩ := c_chr (d := mo5 d 0) hD hj y
    refine ⟨⟨a2, trivial⟩, ?_⟩
    rw [a1]
    rcases own01 (mo5 d 0) (nI j) y with g | g
    · rw [g, if_pos rfl]; exact ⟨RC.ok rfl, h.thr 0⟩
    · rw [g, if_neg (by decide)]; exact ⟨RC.ok rfl, h.thr 0⟩
theorem R_hasException {B : Nat} {q : McV} {v sn : StV} {hi : HiV} {hs : Nat → StV} {tb nt : SbV} {d : MoV} (h : RW B q v sn hi hs tb nt d) (x y : Int32) : ok_X10_hasException d x y ∧ RC ["java/lang/IndexOutOfBoundsException"] (f_X9_hasException q v x y).1 (f_X9_hasException q v x y).2 (f_X10_hasException d x y).1 (f_X10_hasException d x y).2.2.2.2.2.2.1 ∧ RW B q v sn hi hs tb nt (f_X10_hasException d x y).2 := by
  obtain ⟨t, c, ht, hc, hc2, e1, e2, e3, e4, hD, hE, hP, hA⟩ := id h.1
  refine g_door h x [] (if f_X1_positionOf v.2.2.2.1 x y = -1 then ("", 0) else ("", 1)) (if f_X10_place (mo5 d 0) x y < 0 then (0, mo5 d 0) else (1, mo5 d 0)) (ok_X10_place (mo5 d 0) x y ∧ True) (fun j hj e => ?_)
  subst e
  obtain ⟨a1, a2⟩ := c_place (d := mo5 d 0) hE (nI j) y
  refine ⟨⟨a1, trivial⟩, ?_⟩
  rcases a2 with ⟨b1, b2⟩ | ⟨n, i, hn, b0, hi, b1, b2⟩
  · rw [b1, b2, if_pos rfl, if_pos (by decide)]
    exact ⟨RC.ok rfl, h.thr 0⟩
  · rw [b1, b2, if_neg (fun g => (q_neM (by omega)).mp g), if_neg (nI_pos (by omega))]
    exact ⟨RC.ok rfl, h.thr 0⟩
theorem R_isUnlocked {B : Nat} {q : McV} {v sn : StV} {hi : HiV} {hs : Nat → StV} {tb nt : SbV} {d : MoV} (h : RW B q v sn hi hs tb nt d) (x : Int32) (hB : B < 2 ^ 30) : ok_X10_isUnlocked d x ∧ RC ["java/lang/IndexOutOfBoundsException"] (f_X9_isUnlocked q v x).1 (f_X9_isUnlocked q v x).2 (f_X10_isUnlocked d x).1 (f_X10_isUnlocked d x).2.2.2.2.2.2.1 ∧ RW B q v sn hi hs tb nt (f_X10_isUnlocked d x).2 := by
  obtain ⟨t, c, ht, hc, hc2, e1, e2, e3, e4, hD, hE, hP, hA⟩ := id h.1
  refine g_door h x [] ("", f_X8_isUnlockedAt v x v.1) (if f_X10_unlocked (mo5 d 0) x (d.1 0) = 0 then (0, mo5 d 0) else (1, mo5 d 0)) (ok_X10_unlocked (mo5 d 0) x (d.1 0) ∧ True) (fun j hj e => ?_)
  subst e
  rw [e1, e2]
  obtain ⟨a1, a2, a3⟩ := c_unl (d := mo5 d 0) h.1 hj (tm := t) (by omega)
  refine ⟨⟨a2, trivial⟩, ?_⟩
  rw [a1]
  rcases a3 with g | g
  · rw [g, if_pos rfl]; exact ⟨RC.ok rfl, h.thr 0⟩
  · rw [g, if_neg (by decide)]; exact ⟨RC.ok rfl, h.thr 0⟩
theorem R_entriesOf {B : Nat} {q : McV} {v sn : StV} {hi : HiV} {hs : Nat → StV} {tb nt : SbV} {d : MoV} (h : RW B q v sn hi hs tb nt d) (x : Int32) : ok_X10_entriesOf d x ∧ RC ["java/lang/IndexOutOfBoundsException"] (f_X9_entriesOf q v x).1 (f_X9_entriesOf q v x).2 (f_X10_entriesOf d x).1 (f_X10_entriesOf d x).2.2.2.2.2.2.1 ∧ RW B q v sn hi hs tb nt (f_X10_entriesOf d x).2 := by
  obtain ⟨t, c, ht, hc, hc2, e1, e2, e3, e4, hD, hE, hP, hA⟩ := id h.1
  refine g_pers h x [] ("", f_X5_entriesFor v.2.2.2.2.1 x) (f_X10_ofPerson (mo5 d 0) x 1, mo5 d 0) (ok_X10_ofPerson (mo5 d 0) x 1 ∧ True) (fun j hj e => ?_)
  subst e
  obtain ⟨a1, a2⟩ := m_ofP (mo5 d 0) hj (w := 1) (by decide)
  refine ⟨⟨a2, trivial⟩, RC.ok ?_, h.thr 0⟩
  unfold f_X5_entriesFor
  rw [n_at _ hj (by decide), (hP.get hj).2]
  exact a1.symm
theorem R_hasKey {B : Nat} {q : McV} {v sn : StV} {hi : HiV} {hs : Nat → StV} {tb nt : SbV} {d : MoV} (h : RW B q v sn hi hs tb nt d) (x y : Int32) : ok_X10_hasKey d x y ∧ RC ["java/lang/IndexOutOfBoundsException"] (f_X9_hasKey q v x y).1 (f_X9_hasKey q v x y).2 (f_X10_hasKey d x y).1 (f_X10_hasKey d x y).2.2.2.2.2.2.1 ∧ RW B q v sn hi hs tb nt (f_X10_hasKey d x y).2 := by
  obtain ⟨t, c, ht, hc, hc2, e1, e2, e3, e4, hD, hE, hP, hA⟩ := id h.1
  refine g_pers h x [] ("", f_X5_ringContains v.2.2.2.2.1 x y) (if f_X10_has (mo5 d 0) x y = 0 then (0, mo5 d 0) else (1, mo5 d 0)) (ok_X10_has (mo5 d 0) x y ∧ True) (fun j hj e => ?_)
  subst e
  obtain ⟨a1, a2, a3⟩ := c_has (d := mo5 d 0) hP hj y
  refine ⟨⟨a2, trivial⟩, ?_⟩
  rw [a1]
  rcases a3 with g | g
  · rw [g, if_pos rfl]; exact ⟨RC.ok rfl, h.thr 0⟩
  · rw [g, if_neg (by decide)]; exact ⟨RC.ok rfl, h.thr 0⟩
