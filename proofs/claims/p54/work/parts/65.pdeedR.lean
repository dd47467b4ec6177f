/-! ===== the calls that name a deed; undo, save, restore ===== -/
theorem keeps_RS {B : Nat} {q : McV} {v sn : StV} {hi : HiV} {hs : Nat → StV} {tb nt : SbV} {d : MoV} (h : RW B q v sn hi hs tb nt d) : RS B v (f_X10_keeps d).1 := by
  rw [(m_keeps d).1]
  exact h.1
theorem R_giveKey {B : Nat} {q : McV} {v sn : StV} {hi : HiV} {hs : Nat → StV} {tb nt : SbV} {d : MoV} (h : RW B q v sn hi hs tb nt d) (hB : B < 2 ^ 29) (x y : Int32) : ok_X10_giveKey d x y ∧ RC ["java/lang/IndexOutOfBoundsException", "java/lang/IllegalArgumentException", "java/lang/IllegalStateException"] (f_X9_giveKey q v hi hs x y).1 (f_X9_giveKey q v hi hs x y).2.1 (f_X10_giveKey d x y).1 (f_X10_giveKey d x y).2.2.2.2.2.2.1 ∧ RW (B) q (f_X9_giveKey q v hi hs x y).2.2.1 sn (f_X9_giveKey q v hi hs x y).2.2.2.1 (f_X9_giveKey q v hi hs x y).2.2.2.2 tb nt (f_X10_giveKey d x y).2 := by
  obtain ⟨a1, a2, a3⟩ := g_deed h (by omega : B ≤ B) (f_X5_faultOfGiving v.2.2.2.2.1 x y) ((f_X5_give v.2.2.2.2.1 x y).1, (v.1, v.2.1, v.2.2.1, v.2.2.2.1, (f_X5_give v.2.2.2.2.1 x y).2, v.2.2.2.2.2)) _ (ok_X10_gives (f_X10_keeps d) x y) (f_X10_gives (f_X10_keeps d) x y) (C_gives (keeps_RS h) x y)
  exact ⟨a1, a2, a3⟩
theorem R_takeKey {B : Nat} {q : McV} {v sn : StV} {hi : HiV} {hs : Nat → StV} {tb nt : SbV} {d : MoV} (h : RW B q v sn hi hs tb nt d) (hB : B < 2 ^ 29) (x y : Int32) : ok_X10_takeKey d x y ∧ RC ["java/lang/IndexOutOfBoundsException", "java/util/NoSuchElementException"] (f_X9_takeKey q v hi hs x y).1 (f_X9_takeKey q v hi hs x y).2.1 (f_X10_takeKey d x y).1 (f_X10_takeKey d x y).2.2.2.2.2.2.1 ∧ RW (B) q (f_X9_takeKey q v hi hs x y).2.2.1 sn (f_X9_takeKey q v hi hs x y).2.2.2.1 (f_X9_takeKey q v hi hs x y).2.2.2.2 tb nt (f_X10_takeKey d x y).2 := by
  obtain ⟨a1, a2, a3⟩ := g_deed h (by omega : B ≤ B) (f_X5_faultOfTaking v.2.2.2.2.1 x y) ((f_X5_take v.2.2.2.2.1 x y).1, (v.1, v.2.1, v.2.2.1, v.2.2.2.1, (f_X5_take v.2.2.2.2.1 x y).2, v.2.2.2.2.2)) _ (ok_X10_takes (f_X10_keeps d) x y) (f_X10_takes (f_X10_keeps d) x y) (C_takes (keeps_RS h) x y)
  exact ⟨a1, a2, a3⟩
theorem R_tryDoor {B : Nat} {q : McV} {v sn : StV} {hi : HiV} {hs : Nat → StV} {tb nt : SbV} {d : MoV} (h : RW B q v sn hi hs tb nt d) (hB : B < 2 ^ 29) (x y : Int32) : ok_X10_tryDoor d x y ∧ RC ["java/lang/IndexOutOfBoundsException"] (f_X9_tryDoor q v hi hs x y).1 (f_X9_tryDoor q v hi hs x y).2.1 (f_X10_tryDoor d x y).1 (f_X10_tryDoor d x y).2.2.2.2.2.2.1 ∧ RW (B + 240) q (f_X9_tryDoor q v hi hs x y).2.2.1 sn (f_X9_tryDoor q v hi hs x y).2.2.2.1 (f_X9_tryDoor q v hi hs x y).2.2.2.2 tb nt (f_X10_tryDoor d x y).2 := by
  obtain ⟨a1, a2, a3⟩ := g_deed h (by omega : B ≤ B + 240) (f_X8_faultOfAttempt v x y) (f_X8_attempt v x y) _ (ok_X10_tries (f_X10_keeps d) x y) (f_X10_tries (f_X10_keeps d) x y) (C_tries (keeps_RS h) hB x y)
  exact ⟨a1, a2, a3⟩
theorem R_setCycle {B : Nat} {q : McV} {v sn : StV} {hi : HiV} {hs : Nat → StV} {tb nt : SbV} {d : MoV} (h : RW B q v sn hi hs tb nt d) (hB : B < 2 ^ 29) (x : Int32) : ok_X10_setCycle d x ∧ RC ["java/lang/IllegalArgumentException"] (f_X9_setCycle q v hi hs x).1 (f_X9_setCycle q v hi hs x).2.1 (f_X10_setCycle d x).1 (f_X10_setCycle d x).2.2.2.2.2.2.1 ∧ RW (B) q (f_X9_setCycle q v hi hs x).2.2.1 sn (f_X9_setCycle q v hi hs x).2.2.2.1 (f_X9_setCycle q v hi hs x).2.2.2.2 tb nt (f_X10_setCycle d x).2 := by
  obtain ⟨a1, a2, a3⟩ := g_deed h (by omega : B ≤ B) (f_X8_faultOfCycle x) (f_X8_changeCycle v x) _ (True) (f_X10_moons (f_X10_keeps d) x) (C_moons (keeps_RS h) x)
  exact ⟨⟨a1.1, a1.2.2⟩, a2, a3⟩
theorem R_advance {B : Nat} {q : McV} {v sn : StV} {hi : HiV} {hs : Nat → StV} {tb nt : SbV} {d : MoV} (h : RW B q v sn hi hs tb nt d) (hB : B < 2 ^ 29) (x : Int32) : ok_X10_advance d x ∧ RC ["java/lang/IllegalArgumentException"] (f_X9_advance q v hi hs x).1 (f_X9_advance q v hi hs x).2.1 (f_X10_advance d x).1 (f_X10_advance d x).2.2.2.2.2.2.1 ∧ RW (B + 240) q (f_X9_advance q v hi hs x).2.2.1 sn (f_X9_advance q v hi hs x).2.2.2.1 (f_X9_advance q v hi hs x).2.2.2.2 tb nt (f_X10_advance d x).2 := by
  obtain ⟨a1, a2, a3⟩ := g_deed h (by omega : B ≤ B + 240) (f_X8_faultOfWaiting x) (f_X8_passHours v x) _ (ok_X10_waits (f_X10_keeps d) x) (f_X10_waits (f_X10_keeps d) x) (C_waits (keeps_RS h) hB x)
  exact ⟨a1, a2, a3⟩
theorem R_addException {B : Nat} {q : McV} {v sn : StV} {hi : HiV} {hs : Nat → StV} {tb nt : SbV} {d : MoV} (h : RW B q v sn hi hs tb nt d) (hB : B < 2 ^ 29) (x y op : Int32) (hop : op = 0 ∨ op = 1) : ok_X10_addException d x y op ∧ RC ["java/lang/IndexOutOfBoundsException", "java/lang/IllegalArgumentException", "java/lang/UnsupportedOperationException", "java/lang/IllegalStateException"] (f_X9_addException q v hi hs x y op).1 (f_X9_addException q v hi hs x y op).2.1 (f_X10_addException d x y op).1 (f_X10_addException d x y op).2.2.2.2.2.2.1 ∧ RW B q (f_X9_addException q v hi hs x y op).2.2.1 sn (f_X9_addException q v hi hs x y op).2.2.2.1 (f_X9_addException q v hi hs x y op).2.2.2.2 tb nt (f_X10_addException d x y op).2 := by
  obtain ⟨a1, a2, a3⟩ := g_deed h (Nat.le_refl B) (f_X8_faultOfNewException v x y) ((f_X1_insert v.2.2.2.1 x y op).1, (v.1, v.2.1, v.2.2.1, (f_X1_insert v.2.2.2.1 x y op).2, v.2.2.2.2.1, v.2.2.2.2.2)) _ (ok_X10_excepts (f_X10_keeps d) x y op) (f_X10_excepts (f_X10_keeps d) x y op) (C_excepts (keeps_RS h) (by omega) x y op hop)
  unfold ok_X10_addException f_X10_addException
  rcases hop with e | e <;> subst e
  · rw [if_pos rfl, if_pos rfl]
    exact ⟨a1, a2, a3⟩
  · rw [if_neg (show ¬ (1 : Int32) = 0 by decide), if_neg (show ¬ (1 : Int32) = 0 by decide)]
    exact ⟨a1, a2, a3⟩
theorem R_liftException {B : Nat} {q : McV} {v sn : StV} {hi : HiV} {hs : Nat → StV} {tb nt : SbV} {d : MoV} (h : RW B q v sn hi hs tb nt d) (hB : B < 2 ^ 29) (x y : Int32) : ok_X10_liftException d x y ∧ RC ["java/lang/IndexOutOfBoundsException", "java/util/NoSuchElementException"] (f_X9_liftException q v hi hs x y).1 (f_X9_liftException q v hi hs x y).2.1 (f_X10_liftException d x y).1 (f_X10_liftException d x y).2.2.2.2.2.2.1 ∧ RW B q (f_X9_liftException q v hi hs x y).2.2.1 sn (f_X9_liftException q v hi hs x y).2.2.2.1 (f_X9_liftException q v hi hs x y).2.2.2.2 tb nt (f_X10_liftException d x y).2 := by
  obtain ⟨c1, c2⟩ := C_lifts (keeps_RS h) x y
  obtain ⟨a1, a2, a3⟩ := g_deed h (Nat.le_refl B) (f_X8_faultOfLifting v x y) ((f_X1_remove v.2.2.2.1 x y).1, (v.1, v.2.1, v.2.2.1, (f_X1_remove v.2.2.2.1 x y).2, v.2.2.2.2.1, v.2.2.2.2.2)) _ (ok_X10_lifts (f_X10_keeps d) x y) (f_X10_lifts (f_X10_keeps d) x y) c1
  refine ⟨a1, ?_⟩
  have hv : (f_X10_ends (f_X10_lifts (f_X10_keeps d) x y).2 (f_X10_lifts (f_X10_keeps d) x y).1).1 = 0 ∨ (f_X10_ends (f_X10_lifts (f_X10_keeps d) x y).2 (f_X10_lifts (f_X10_keeps d) x y).1).1 = 1 := by
    unfold CORE at c1
    obtain ⟨-, ⟨k, hk, -, -, -, hR⟩ | ⟨-, s', hR, hS⟩⟩ := c1
    · rw [hR, (ends_thrown (mo5 (f_X10_keeps d) (nI (k + 1))) 0 hk rfl).1]
      exact Or.inl rfl
    · rw [hR] at c2 ⊢
      obtain ⟨k9, x9, g1, g2, g3, g4, g5, g6⟩ := h.2.1
      obtain ⟨o, p', e1, e2, e3⟩ := m_ends (mo5 (mo0 (f_X10_keeps d) s') 0) (f_X1_remove v.2.2.2.1 x y).1 g1 rfl (by rw [(m_keeps d).1]; exact g5)
      rw [e1]
      exact c2
  have ev : f_X10_liftException d x y = f_X10_ends (f_X10_lifts (f_X10_keeps d) x y).2 (f_X10_lifts (f_X10_keeps d) x y).1 := by
    unfold f_X10_liftException
    rcases hv with g | g
    · simp only [g, L01, ite_false]
      rw [← g]
    · simp only [g, eq_self, ite_true]
      rw [← g]
  rw [ev]
  exact ⟨a2, a3⟩
theorem R_undo {B : Nat} {q : McV} {v sn : StV} {hi : HiV} {hs : Nat → StV} {tb nt : SbV} {d : MoV} (h : RW B q v sn hi hs tb nt d) : (ok_X10_undo d ∧ ok_X9_undo q v hi hs) ∧ RC ["java/lang/IllegalStateException"] (f_X9_undo q v hi hs).1 (f_X9_undo q v hi hs).2.1 (f_X10_undo d).1 (f_X10_undo d).2.2.2.2.2.2.1 ∧ RW B q (f_X9_undo q v hi hs).2.2.1 sn (f_X9_undo q v hi hs).2.2.2.1 (f_X9_undo q v hi hs).2.2.2.2 tb nt (f_X10_undo d).2 := by
  obtain ⟨r1, r2, r3, r4, r5, r6, r7⟩ := id h
  obtain ⟨k, x, g1, g2, g3, g4, g5, g6⟩ := id r2
  by_cases hk : k = 0
  · subst hk
    have z1 : hi.1 = 0 := g3
    have z2 : d.2.2.2.2.1 = 0 := g5
    unfold ok_X10_undo f_X10_undo ok_X9_undo f_X9_undo
    rw [if_pos z1, if_pos z1, if_pos z2, if_pos z2]
    exact ⟨⟨trivial, trivial⟩, RC.x1 (by decide), h.thr 1⟩
  · have zk : (nI k = 0) = False := eq_false (nI_ne0 (by omega) (by omega))
    have ek : nI k - 1 = nI (k - 1) := by rw [q_1, pk_sub (by omega)]
    have ef : f_J9_floorMod_7cf53 (hi.2 - 1) 9 = nI ((x + 8) % 9) := by
      rw [g4]
      have : ∀ x, x < 9 → f_J9_floorMod_7cf53 (nI x - 1) 9 = nI ((x + 8) % 9) := by decide +kernel
      exact this x g2
    have hx8 : (x + 8) % 9 < 9 := Nat.mod_lt _ (by decide)
    obtain ⟨c1, c2⟩ := m_copies (fn := 1992) (gn := 249) (i := 249 * (k - 1)) (j := 0) d.2.2.2.1 d.1 (by omega) (by decide) (by decide) (by decide)
    have c1 : f_X10_copies 1992 d.2.2.2.1 (nI (249 * (k - 1))) 249 d.1 0 = _ := c1
    have c2 : ok_X10_copies 1992 d.2.2.2.1 (nI (249 * (k - 1))) 249 d.1 0 := c2
    have im : (249 : Int32) * nI (k - 1) = nI (249 * (k - 1)) := by rw [q_249, pk_mul]
    unfold ok_X10_undo f_X10_undo ok_X9_undo f_X9_undo f_X4_stepBack
    simp only [zk, ite_false, m_thr0, g3, g5, ek, ef, im, c1, c2, nI_clamp (show (x + 8) % 9 < 2 ^ 31 by omega)]
    refine ⟨⟨⟨trivial, trivial⟩, ?_, trivial⟩, RC.ok rfl, ?_, ?_, r3, r4, r5, r6, r7⟩
    · unfold nx9
      rcases (by omega : (x + 8) % 9 = 0 ∨ (x + 8) % 9 = 1 ∨ (x + 8) % 9 = 2 ∨ (x + 8) % 9 = 3 ∨ (x + 8) % 9 = 4 ∨ (x + 8) % 9 = 5 ∨ (x + 8) % 9 = 6 ∨ (x + 8) % 9 = 7 ∨ (x + 8) % 9 = 8) with e | e | e | e | e | e | e | e | e <;> rw [e] <;> decide
    · have := g6 (k - 1) (by omega)
      rw [show (x + 9 - k + (k - 1)) % 9 = (x + 8) % 9 by omega] at this
      exact (this.copy v).congr (fun j hj => by
        show (if 0 ≤ j ∧ j < 0 + 249 then d.2.2.2.1 (249 * (k - 1) + (j - 0)) else d.1 j) = _
        rw [if_pos (by omega)]; rfl)
    · refine ⟨k - 1, (x + 8) % 9, by omega, hx8, rfl, rfl, rfl, fun i hi => ?_⟩
      rw [show ((x + 8) % 9 + 9 - (k - 1) + i) % 9 = (x + 9 - k + i) % 9 by omega]
      exact g6 i (by omega)
theorem m_attempts {B t : Nat} {v : AuV} {d : MoV} (h : RA B t v d.1) : f_X10_attempts d = v.1 ∧ ok_X10_attempts d := by
  obtain ⟨n, q1, q2, q3, q4, q5, q6, q7⟩ := h
  have iE : ∀ w : Nat, (6 : Int32) + nI w = nI (6 + w) := fun w => by rw [q_6, nI_add]
  have n5 : ∀ w, w < 5 → ((5 : Int32) ≤ nI w) = False := fun w hw => eq_false (nI_ge (b := 5) hw (by decide))
  have y5 : ((5 : Int32) ≤ nI 5) = True := eq_true (nI_le (a := 5) (by decide) (by decide))
  have cl : ∀ w, w < 5 → (nI (6 + w)).toNatClampNeg = 6 + w := fun w hw => nI_clamp (by omega)
  have iw : ∀ w, w < 5 → vp_in (nI (6 + w)) 249 := fun w hw => in_lit _ (by omega)
  constructor
  · show lp_X10_attempts_4 d 6 (nI 0) 0 = _
    simp only [lp_X10_attempts_4, n5 0 (by decide), n5 1 (by decide), n5 2 (by decide), n5 3 (by decide), n5 4 (by decide), y5, ite_true, ite_false, nI_1, iE, cl 0 (by decide), cl 1 (by decide), cl 2 (by decide), cl 3 (by decide), cl 4 (by decide)]
    rw [q2, ← q4, Int32.zero_add]
  · show okl_lp_X10_attempts_4 d 6 (nI 0) 0
    simp only [okl_lp_X10_attempts_4, n5 0 (by decide), n5 1 (by decide), n5 2 (by decide), n5 3 (by decide), n5 4 (by decide), y5, ite_true, ite_false, nI_1, iE, iw 0 (by decide), iw 1 (by decide), iw 2 (by decide), iw 3 (by decide), iw 4 (by decide), and_self]
theorem RS.att {B : Nat} {v : StV} {d : MoV} (h : RS B v d.1) : f_X10_attempts d = v.2.2.2.2.2.1 ∧ ok_X10_attempts d := by
  obtain ⟨t, c, ht, hc, hc2, e1, e2, e3, e4, hD, hE, hP, hA⟩ := h
  exact m_attempts hA
theorem R_save {B : Nat} {q : McV} {v sn : StV} {hi : HiV} {hs : Nat → StV} {tb nt : SbV} {d : MoV} (h : RW B q v sn hi hs tb nt d) : ok_X10_save d ∧ (f_X9_save q v sn).1 = (f_X10_save d).1 ∧ (f_X10_save d).2.2.2.2.2.2.1 = 0 ∧ RW B (f_X9_save q v sn).2.1 v (f_X9_save q v sn).2.2 hi hs tb nt (f_X10_save d).2 := by
  obtain ⟨r1, r2, r3, r4, r5, r6, r7⟩ := id h
  obtain ⟨c1, c2⟩ := m_copies (fn := 249) (gn := 249) (i := 0) (j := 0) d.1 d.2.2.1 (by decide) (by decide) (by decide) (by decide)
  have c1 : f_X10_copies 249 d.1 0 249 d.2.2.1 0 = _ := c1
  have c2 : ok_X10_copies 249 d.1 0 249 d.2.2.1 0 := c2
  unfold ok_X10_save f_X10_save f_X9_save
  simp only [c1]
  obtain ⟨a1, a2⟩ := RS.att (v := v) (d := mo9 (mo2 (mo5 d 0) (fun q => if 0 ≤ q ∧ q < 0 + 249 then d.1 (0 + (q - 0)) else d.2.2.1 q)) 1) r1
  refine ⟨⟨c2, a2, trivial⟩, a1.symm, trivial, r1, r2, ⟨rfl, Or.inr ⟨rfl, ?_⟩⟩, r4, r5, r6, r7⟩
  exact (r1.copy sn).congr (fun j hj => by
    show (if 0 ≤ j ∧ j < 0 + 249 then d.1 (0 + (j - 0)) else d.2.2.1 j) = _
    rw [if_pos (by omega), show 0 + (j - 0) = j by omega])
theorem R_restore {B : Nat} {q : McV} {v sn : StV} {hi : HiV} {hs : Nat → StV} {tb nt : SbV} {d : MoV} (h : RW B q v sn hi hs tb nt d) : ok_X10_restore d ∧ RC ["java/lang/IllegalStateException"] (f_X9_restore q v sn hi).1 (f_X9_restore q v sn hi).2.1 (f_X10_restore d).1 (f_X10_restore d).2.2.2.2.2.2.1 ∧ RW B q (f_X9_restore q v sn hi).2.2.1 sn (f_X9_restore q v sn hi).2.2.2 hs tb nt (f_X10_restore d).2 := by
  obtain ⟨r1, r2, r3, r4, r5, r6, r7⟩ := id h
  obtain ⟨g0, g⟩ := id r3
  obtain ⟨c1, c2⟩ := m_copies (fn := 249) (gn := 249) (i := 0) (j := 0) d.2.2.1 d.1 (by decide) (by decide) (by decide) (by decide)
  have c1 : f_X10_copies 249 d.2.2.1 0 249 d.1 0 = _ := c1
  have c2 : ok_X10_copies 249 d.2.2.1 0 249 d.1 0 := c2
  rcases g with g | ⟨g, gS⟩
  · have g9 : d.2.2.2.2.2.2.2.2.2.1 = 0 := g0.symm.trans g
    unfold ok_X10_restore f_X10_restore f_X9_restore
    simp only [g, g9, eq_self, ite_true, m_thr1]
    exact ⟨trivial, RC.x1 (by decide), h.thr 1⟩
  · have g9 : d.2.2.2.2.2.2.2.2.2.1 = 1 := g0.symm.trans g
    unfold ok_X10_restore f_X10_restore f_X9_restore f_X4_forget
    simp only [g, g9, L10, ite_false, m_thr0, c1]
    have hS : RS B (f_X8_copyFrom v sn) (fun q => if 0 ≤ q ∧ q < 0 + 249 then d.2.2.1 (0 + (q - 0)) else d.1 q) := (gS.copy v).congr (fun j hj => by
      show (if 0 ≤ j ∧ j < 0 + 249 then d.2.2.1 (0 + (j - 0)) else d.1 j) = _
      rw [if_pos (by omega), show 0 + (j - 0) = j by omega])
    obtain ⟨a1, a2⟩ := RS.att (d := mo4 (mo0 (mo5 d 0) (fun q => if 0 ≤ q ∧ q < 0 + 249 then d.2.2.1 (0 + (q - 0)) else d.1 q)) 0) hS
    obtain ⟨k, x, g1, g2, g3, g4, g5, g6⟩ := id r2
    exact ⟨⟨c2, a2, trivial⟩, RC.ok a1.symm, hS, ⟨0, x, by decide, g2, rfl, g4, rfl, fun i hi => absurd hi (Nat.not_lt_zero i)⟩, r3, r4, r5, r6, r7⟩
