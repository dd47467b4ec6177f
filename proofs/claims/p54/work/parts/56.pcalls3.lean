/-! ===== calls that only read: time, audits ===== -/
theorem R_phaseOn {B : Nat} {q : McV} {v sn : StV} {hi : HiV} {hs : Nat → StV} {tb nt : SbV} {d : MoV} (h : RW B q v sn hi hs tb nt d) (x : Int32) : ok_X10_phaseOn d x ∧ RC ["java/lang/IllegalArgumentException"] (f_X9_phaseOn q v x).1 (f_X9_phaseOn q v x).2 (f_X10_phaseOn d x).1 (f_X10_phaseOn d x).2.2.2.2.2.2.1 ∧ RW B q v sn hi hs tb nt (f_X10_phaseOn d x).2 := by
  obtain ⟨t, c, ht, hc, hc2, e1, e2, e3, e4, hD, hE, hP, hA⟩ := id h.1
  unfold ok_X10_phaseOn f_X9_phaseOn f_X10_phaseOn
  rcases g_rng x 0 9999 with ⟨r1, r2⟩ | ⟨r1, r2, r3, r4⟩
  · rw [r1, r2, if_pos rfl, if_neg (by decide), if_pos rfl]
    exact ⟨trivial, RC.x1 (by decide), h.thr 1⟩
  · rw [r1, r2, if_neg (by decide), if_pos rfl, if_neg (by decide)]
    obtain ⟨j, -, hj, rfl⟩ := g_nat (lo := 0) (n := 9999) (by decide) (by decide) r3 r4
    obtain ⟨a1, a2⟩ := m_phase (d := mo5 d 0) e4 hc hc2 (y := j) (by omega)
    exact ⟨⟨a2, trivial⟩, RC.ok ((c_phase e3 hc hc2 (by omega)).trans a1.symm), h.thr 0⟩
theorem phase_hit : ∀ c, c < 33 → 24 ≤ c → ∀ r, r < c → ∀ p, p < 8 → ∃ k, k < c ∧ (r + 1 + k) % c * 8 / c = p := by decide +kernel
theorem dph_lp {v : StV} {d : MoV} {t c p : Nat} (e1 : v.1 = nI t) (e2 : d.1 0 = nI t) (e3 : v.2.1 = nI c) (e4 : d.1 1 = nI c) (ht : t < 2 ^ 30) (hc : 24 ≤ c) (hc2 : c ≤ 32) (hp : p < 8) (d0 : MoV) : ∀ (k x m : Nat), k + x = c + 1 → 1 ≤ x → 2 ≤ k + m → c + 1 ≤ x + m → (∃ z, x ≤ z ∧ z ≤ c ∧ (t / 24 + z) % c * 8 / c = p) → k ≠ 0 →
    okl_lp_X10_daysUntilPhase_27 d0 (nI p) d m (nI x) ∧ lp_X10_daysUntilPhase_27 d0 (nI p) d m (nI x) = (lp_X8_daysToPhase_2 v (nI p) k (nI x), d) := by
  intro k
  induction k with
  | zero => intro x m _ _ _ _ _ h; exact absurd rfl h
  | succ k ih =>
    intro x m hx h1 h2 hm hz _
    cases m with
    | zero => omega
    | succ m =>
      have p2 : (t / 24 + x) % c * 8 / c < 8 := by
        have h1 : (t / 24 + x) % c < c := Nat.mod_lt _ (by omega)
        exact Nat.div_lt_of_lt_mul (by omega)
      obtain ⟨a1, a2⟩ := m_phase e4 hc hc2 (y := t / 24 + x) (by omega)
      unfold okl_lp_X10_daysUntilPhase_27 lp_X10_daysUntilPhase_27 lp_X8_daysToPhase_2
      rw [m_today e2 (by omega), c_today e1 (by omega), nI_add, a1, c_phase e3 hc hc2 (by omega), e3, nI_1]
      simp only [nI_eq (show (t / 24 + x) % c * 8 / c < 2 ^ 31 by omega) (show p < 2 ^ 31 by omega)]
      by_cases hh : (t / 24 + x) % c * 8 / c = p
      · rw [if_pos hh, if_pos hh, if_pos hh, ite_self]
        exact ⟨⟨a2, trivial⟩, rfl⟩
      · rw [if_neg hh, if_neg hh, if_neg hh]
        obtain ⟨z, z1, z2, z3⟩ := hz
        have zx : z ≠ x := fun e => hh (e ▸ z3)
        rw [if_neg (nI_ge (show x < c by omega) (by omega))]
        have := ih (x + 1) m (by omega) (by omega) (by omega) (by omega) ⟨z, by omega, z2, z3⟩ (by omega)
        exact ⟨⟨a2, this.1⟩, this.2⟩
theorem R_daysUntilPhase {B : Nat} {q : McV} {v sn : StV} {hi : HiV} {hs : Nat → StV} {tb nt : SbV} {d : MoV} (h : RW B q v sn hi hs tb nt d) (x : Int32) (hB : B < 2 ^ 30) : ok_X10_daysUntilPhase d x ∧ RC ["java/lang/IllegalArgumentException"] (f_X9_daysUntilPhase q v x).1 (f_X9_daysUntilPhase q v x).2 (f_X10_daysUntilPhase d x).1 (f_X10_daysUntilPhase d x).2.2.2.2.2.2.1 ∧ RW B q v sn hi hs tb nt (f_X10_daysUntilPhase d x).2 := by
  obtain ⟨t, c, ht, hc, hc2, e1, e2, e3, e4, hD, hE, hP, hA⟩ := id h.1
  unfold ok_X10_daysUntilPhase f_X9_daysUntilPhase f_X10_daysUntilPhase
  rcases g_rng x 0 7 with ⟨r1, r2⟩ | ⟨r1, r2, r3, r4⟩
  · rw [r1, r2, if_pos rfl, if_neg (by decide), if_pos rfl]
    exact ⟨trivial, RC.x1 (by decide), h.thr 1⟩
  · rw [r1, r2, if_neg (by decide), if_pos rfl, if_neg (by decide)]
    obtain ⟨j, -, hj, rfl⟩ := g_nat (lo := 0) (n := 7) (by decide) (by decide) r3 r4
    obtain ⟨k, k1, k2⟩ := phase_hit c (by omega) hc (t / 24 % c) (Nat.mod_lt _ (by omega)) j (by omega)
    have k3 : (t / 24 + (k + 1)) % c * 8 / c = j := by
      rw [← k2, show t / 24 + (k + 1) = t / 24 + (1 + k) by omega, show t / 24 % c + 1 + k = t / 24 % c + (1 + k) by omega, Nat.mod_add_mod]
    obtain ⟨a1, a2⟩ := dph_lp (d := mo5 d 0) e1 e2 e3 e4 (by omega) hc hc2 (show j < 8 by omega) d c 1 40 (by omega) (by omega) (by omega) (by omega) ⟨k + 1, by omega, by omega, k3⟩ (by omega)
    have ec : f_X8_daysToPhase v (nI j) = lp_X8_daysToPhase_2 v (nI j) c (nI 1) := by
      unfold f_X8_daysToPhase
      rw [e3, nI_toInt (by omega), show (1 : Int32).toInt = 1 from rfl, show ((c : Int) - 1).toNat + 1 = c by omega]
      rfl
    have a1 : okl_lp_X10_daysUntilPhase_27 d (nI j) (f_X10_isThrown d 0 1) 40 1 := a1
    have a2 : lp_X10_daysUntilPhase_27 d (nI j) (f_X10_isThrown d 0 1) 40 1 = _ := a2
    rw [ec]
    simp only [a2]
    exact ⟨a1, RC.ok rfl, h.thr 0⟩
/-! hour by hour -/
theorem hbh_lp {B : Nat} {v : StV} {d : MoV} (h : RS B v d.1) {t j : Nat} (e1 : v.1 = nI t) (e2 : d.1 0 = nI t) (ht : t < 2 ^ 30) (hj : j < 8) (d0 : MoV) : ∀ (k x : Nat), x + k = 1002 →
    okl_lp_X10_hoursUntilUnlocked_25 d0 (nI j) d k (nI x) ∧ (k ≠ 0 → (lp_X8_lookHourByHour_2 v (nI j) k (nI x) = -1 ∧ lp_X10_hoursUntilUnlocked_25 d0 (nI j) d k (nI x) = (0, mo5 d 2) ∧ ∀ z, x ≤ z → z ≤ 1000 → f_X10_unlocked d (nI j) (nI (t + z)) = 0) ∨
      ∃ z, x ≤ z ∧ z ≤ 1000 ∧ lp_X8_lookHourByHour_2 v (nI j) k (nI x) = nI z ∧ lp_X10_hoursUntilUnlocked_25 d0 (nI j) d k (nI x) = (nI z, d) ∧ f_X10_unlocked d (nI j) (nI (t + z)) = 1 ∧ ∀ y, x ≤ y → y < z → f_X10_unlocked d (nI j) (nI (t + y)) = 0) := by
  intro k
  induction k with
  | zero => intro x _; exact ⟨trivial, fun h => absurd rfl h⟩
  | succ k ih =>
    intro x hx
    unfold okl_lp_X10_hoursUntilUnlocked_25 lp_X10_hoursUntilUnlocked_25 lp_X8_lookHourByHour_2
    rw [q_1000]
    by_cases hk : 1000 < x
    · have g := nI_lt hk (show x < 2 ^ 31 by omega)
      rw [if_pos g, if_pos g, if_pos g]
      exact ⟨trivial, fun _ => Or.inl ⟨rfl, rfl, fun z hz hz2 => by omega⟩⟩
    · have g := nI_nlt (show x ≤ 1000 by omega) (show 1000 < 2 ^ 31 by decide)
      obtain ⟨u1, u2, u3⟩ := c_unl h hj (tm := t + x) (by omega)
      rw [if_neg g, if_neg g, if_neg g, show ((0 : Int32).toNatClampNeg) = 0 from rfl, e1, e2, nI_add, u1, nI_1]
      have := ih (x + 1) (by omega)
      rcases u3 with u | u
      · rw [if_pos u, if_pos u, if_pos u]
        refine ⟨⟨u2, this.1⟩, fun _ => ?_⟩
        rcases this.2 (by omega) with ⟨p1, p2, p3⟩ | ⟨z, z1, z2, z3, z4, z5, z6⟩
        · refine Or.inl ⟨p1, p2, fun z hz hz2 => ?_⟩
          by_cases ez : z = x
          · rw [ez]; exact u
          · exact p3 z (by omega) hz2
        · refine Or.inr ⟨z, by omega, z2, z3, z4, z5, fun y hy hy2 => ?_⟩
          by_cases ez : y = x
          · rw [ez]; exact u
          · exact z6 y (by omega) hy2
      · have un : ¬ f_X10_unlocked d (nI j) (nI (t + x)) = 0 := by rw [u]; decide
        rw [if_neg un, if_neg un, if_neg un]
        exact ⟨⟨u2, trivial⟩, fun _ => Or.inr ⟨x, by omega, by omega, rfl, rfl, u, fun y hy hy2 => by omega⟩⟩
theorem hbh {B : Nat} {v : StV} {d : MoV} (h : RS B v d.1) {t j : Nat} (e1 : v.1 = nI t) (e2 : d.1 0 = nI t) (ht : t < 2 ^ 30) (hj : j < 8) (d0 : MoV) :
    okl_lp_X10_hoursUntilUnlocked_25 d0 (nI j) d 1002 0 ∧ ((f_X8_lookHourByHour v (nI j) = -1 ∧ lp_X10_hoursUntilUnlocked_25 d0 (nI j) d 1002 0 = (0, mo5 d 2) ∧ ∀ z, z ≤ 1000 → f_X10_unlocked d (nI j) (nI (t + z)) = 0) ∨
      ∃ z, z ≤ 1000 ∧ f_X8_lookHourByHour v (nI j) = nI z ∧ lp_X10_hoursUntilUnlocked_25 d0 (nI j) d 1002 0 = (nI z, d) ∧ f_X10_unlocked d (nI j) (nI (t + z)) = 1 ∧ ∀ y, y < z → f_X10_unlocked d (nI j) (nI (t + y)) = 0) := by
  obtain ⟨a1, a2⟩ := hbh_lp h e1 e2 ht hj d0 1002 0 (by decide)
  refine ⟨a1, ?_⟩
  rcases a2 (by decide) with ⟨b1, b2, b3⟩ | ⟨z, -, z2, z3, z4, z5, z6⟩
  · exact Or.inl ⟨b1, b2, fun z hz => b3 z (by omega) hz⟩
  · exact Or.inr ⟨z, z2, z3, z4, z5, fun y hy => z6 y (by omega) hy⟩
theorem R_hoursUntilUnlocked {B : Nat} {q : McV} {v sn : StV} {hi : HiV} {hs : Nat → StV} {tb nt : SbV} {d : MoV} (h : RW B q v sn hi hs tb nt d) (x : Int32) (hB : B < 2 ^ 30) : ok_X10_hoursUntilUnlocked d x ∧ RC ["java/lang/IndexOutOfBoundsException", "java/util/NoSuchElementException"] (f_X9_hoursUntilUnlocked q v x).1 (f_X9_hoursUntilUnlocked q v x).2 (f_X10_hoursUntilUnlocked d x).1 (f_X10_hoursUntilUnlocked d x).2.2.2.2.2.2.1 ∧ RW B q v sn hi hs tb nt (f_X10_hoursUntilUnlocked d x).2 := by
  obtain ⟨t, c, ht, hc, hc2, e1, e2, e3, e4, hD, hE, hP, hA⟩ := id h.1
  refine g_door h x ["java/util/NoSuchElementException"] (if f_X8_lookHourByHour v x = -1 then (if f_X9_requireElement 0 = "" then ("", f_X8_lookHourByHour v x) else (f_X9_requireElement 0, 0)) else (if f_X9_requireElement 1 = "" then ("", f_X8_lookHourByHour v x) else (f_X9_requireElement 1, 0))) (lp_X10_hoursUntilUnlocked_25 d x (mo5 d 0) 1002 0) (okl_lp_X10_hoursUntilUnlocked_25 d x (mo5 d 0) 1002 0) (fun j hj e => ?_)
  subst e
  obtain ⟨a1, a2⟩ := hbh (d := mo5 d 0) h.1 e1 e2 (by omega) hj d
  refine ⟨a1, ?_⟩
  rcases a2 with ⟨b1, b2, -⟩ | ⟨z, hz, b1, b2, -, -⟩
  · rw [b1, b2, if_pos rfl]
    exact ⟨RC.x2 (by decide), h.thr 2⟩
  · rw [b1, b2, if_neg (fun g => (q_neM (by omega)).mp g)]
    exact ⟨RC.ok rfl, h.thr 0⟩
theorem R_entriesOn {B : Nat} {q : McV} {v sn : StV} {hi : HiV} {hs : Nat → StV} {tb nt : SbV} {d : MoV} (h : RW B q v sn hi hs tb nt d) (x y : Int32) (hB : B < 2 ^ 30) : ok_X10_entriesOn d x y ∧ RC ["java/lang/IndexOutOfBoundsException", "java/lang/IllegalArgumentException"] (f_X9_entriesOn q v x y).1 (f_X9_entriesOn q v x y).2 (f_X10_entriesOn d x y).1 (f_X10_entriesOn d x y).2.2.2.2.2.2.1 ∧ RW B q v sn hi hs tb nt (f_X10_entriesOn d x y).2 := by
  obtain ⟨t, c, ht, hc, hc2, e1, e2, e3, e4, hD, hE, hP, hA⟩ := id h.1
  obtain ⟨nd, d1, d2, d3, d4⟩ := id hD
  unfold ok_X10_entriesOn f_X9_entriesOn f_X10_entriesOn f_X10_isNoAudit f_X9_requireDoor
  rw [m_door hD]
  rcases h_do v.2.2.1 d1 d2 x with e | ⟨e, j, hj, rfl⟩
  · simp only [e, eq_self, ite_true, ite_false, L10, S1, m_thr1]
    exact ⟨trivial, RC.x1 (by decide), h.thr 1⟩
  · rcases g_rng y 0 7 with ⟨r1, r2⟩ | ⟨r1, r2, r3, r4⟩
    · simp only [e, r1, r2, eq_self, ite_true, ite_false, L10, S2, m_thr1, m_thr0]
      exact ⟨trivial, RC.x2 (by decide), h.thr 2⟩
    · obtain ⟨a, -, ha, rfl⟩ := g_nat (lo := 0) (n := 7) (by decide) (by decide) r3 r4
      have hj8 : j < 8 := by omega
      obtain ⟨na, q1, q2, q3, q4, q5, q6, q7⟩ := id hA
      obtain ⟨w1, w2⟩ := q7 a (by omega) j hj8
      have ei : ∀ dd : MoV, f_X10_audit dd (nI j) (nI a) = nI (121 + 2 * (8 * a + j)) := fun dd => by
        unfold f_X10_audit
        rw [q_121, q_2, q_8, pk_mul, nI_add, pk_mul, nI_add]
      simp only [e, r1, r2, eq_self, ite_true, ite_false, L10, m_thr0, ei]
      refine ⟨⟨in_lit _ (by omega), trivial⟩, RC.ok ?_, h.thr 0⟩
      rw [nI_clamp (by omega), c_today e1 (by omega)]
      unfold f_X0_countEntries
      by_cases hat : a ≤ t / 24
      · rw [pk_sub hat, if_pos (nI_pos' (by omega))]
        unfold f_X0_slotOf
        rw [q_8, n_fm (by omega) (by decide) (by decide), pk_mul, nI_add, n_at _ (by omega) (by decide)]
        exact ((w1 hat).1).symm
      · have := pk_sneg (a := t / 24) (b := a) (by omega) (by omega)
        rw [if_neg (Int32.not_le.mpr this)]
        exact ((w2 (by omega)).1).symm
theorem R_refusalsOn {B : Nat} {q : McV} {v sn : StV} {hi : HiV} {hs : Nat → StV} {tb nt : SbV} {d : MoV} (h : RW B q v sn hi hs tb nt d) (x y : Int32) (hB : B < 2 ^ 30) : ok_X10_refusalsOn d x y ∧ RC ["java/lang/IndexOutOfBoundsException", "java/lang/IllegalArgumentException"] (f_X9_refusalsOn q v x y).1 (f_X9_refusalsOn q v x y).2 (f_X10_refusalsOn d x y).1 (f_X10_refusalsOn d x y).2.2.2.2.2.2.1 ∧ RW B q v sn hi hs tb nt (f_X10_refusalsOn d x y).2 := by
  obtain ⟨t, c, ht, hc, hc2, e1, e2, e3, e4, hD, hE, hP, hA⟩ := id h.1
  obtain ⟨nd, d1, d2, d3, d4⟩ := id hD
  unfold ok_X10_refusalsOn f_X9_refusalsOn f_X10_refusalsOn f_X10_isNoAudit f_X9_requireDoor
  rw [m_door hD]
  rcases h_do v.2.2.1 d1 d2 x with e | ⟨e, j, hj, rfl⟩
  · simp only [e, eq_self, ite_true, ite_false, L10, S1, m_thr1]
    exact ⟨trivial, RC.x1 (by decide), h.thr 1⟩
  · rcases g_rng y 0 7 with ⟨r1, r2⟩ | ⟨r1, r2, r3, r4⟩
    · simp only [e, r1, r2, eq_self, ite_true, ite_false, L10, S2, m_thr1, m_thr0]
      exact ⟨trivial, RC.x2 (by decide), h.thr 2⟩
    · obtain ⟨a, -, ha, rfl⟩ := g_nat (lo := 0) (n := 7) (by decide) (by decide) r3 r4
      have hj8 : j < 8 := by omega
      obtain ⟨na, q1, q2, q3, q4, q5, q6, q7⟩ := id hA
      obtain ⟨w1, w2⟩ := q7 a (by omega) j hj8
      have ei : ∀ dd : MoV, f_X10_audit dd (nI j) (nI a) + 1 = nI (121 + 2 * (8 * a + j) + 1) := fun dd => by
        unfold f_X10_audit
        rw [q_121, q_2, q_8, pk_mul, nI_add, pk_mul, nI_add]
        rw [q_1, nI_add]
      simp only [e, r1, r2, eq_self, ite_true, ite_false, L10, m_thr0, ei]
      refine ⟨⟨in_lit _ (by omega), trivial⟩, RC.ok ?_, h.thr 0⟩
      rw [nI_clamp (by omega), c_today e1 (by omega)]
      unfold f_X0_countRefusals
      by_cases hat : a ≤ t / 24
      · rw [pk_sub hat, if_pos (nI_pos' (by omega))]
        unfold f_X0_slotOf
        rw [q_8, n_fm (by omega) (by decide) (by decide), pk_mul, nI_add, n_at _ (by omega) (by decide)]
        exact ((w1 hat).2).symm
      · have := pk_sneg (a := t / 24) (b := a) (by omega) (by omega)
        rw [if_neg (Int32.not_le.mpr this)]
        exact ((w2 (by omega)).2).symm
theorem R_loggedPerson {B : Nat} {q : McV} {v sn : StV} {hi : HiV} {hs : Nat → StV} {tb nt : SbV} {d : MoV} (h : RW B q v sn hi hs tb nt d) (x : Int32) (hB : B < 2 ^ 30) : ok_X10_loggedPerson d x ∧ RC ["java/util/NoSuchElementException"] (f_X9_loggedPerson q v x).1 (f_X9_loggedPerson q v x).2 (f_X10_loggedPerson d x).1 (f_X10_loggedPerson d x).2.2.2.2.2.2.1 ∧ RW B q v sn hi hs tb nt (f_X10_loggedPerson d x).2 := by
  obtain ⟨t, c, ht, hc, hc2, e1, e2, e3, e4, hD, hE, hP, hA⟩ := id h.1
  obtain ⟨na, q1, q2, q3, q4, q5, q6, q7⟩ := id hA
  have K : (f_X9_requireElement (f_X0_remembers v.2.2.2.2.2 x) = "java/util/NoSuchElementException" ∧ f_X10_isIn x 0 (d.1 (5 : Int32).toNatClampNeg - 1) = 0) ∨ (f_X9_requireElement (f_X0_remembers v.2.2.2.2.2 x) = "" ∧ f_X10_isIn x 0 (d.1 (5 : Int32).toNatClampNeg - 1) = 1 ∧ ∃ i, i < min na 10 ∧ x = nI i) := by
    unfold f_X9_requireElement f_X0_remembers f_X10_isIn
    simp only [show ((5 : Int32).toNatClampNeg) = 5 from rfl, q2, q3, q_pred (show min na 10 < 2 ^ 31 by omega) x]
    rcases q_arg x (show min na 10 < 2 ^ 31 by omega) with g | g | ⟨i, g, rfl⟩
    · left; rw [if_pos g, if_pos g, if_pos rfl]; exact ⟨rfl, rfl⟩
    · left
      by_cases g0 : x < 0
      · rw [if_pos g0, if_pos g0, if_pos rfl]; exact ⟨rfl, rfl⟩
      · rw [if_neg g0, if_neg g0, if_pos g]
        refine ⟨?_, rfl⟩
        obtain ⟨i, hi, rfl⟩ := nI_of g0
        rw [nI_leI (by omega) hi] at g
        rw [q_10]
        by_cases h10 : 10 ≤ i
        · rw [if_pos (nI_le h10 hi), if_pos rfl]
        · rw [if_neg (nI_ge (by omega) (by decide)), if_pos (nI_le (by omega) hi), if_pos rfl]
    · right
      rw [if_neg (nI_pos (by omega)), if_neg (nI_pos (by omega)), if_neg (nI_ge g (by omega)), q_10, if_neg (nI_ge (by omega) (by decide)), if_neg (nI_ge (by omega) (by omega)), if_neg (by decide)]
      exact ⟨rfl, rfl, i, g, rfl⟩
  unfold ok_X10_loggedPerson f_X9_loggedPerson f_X10_loggedPerson ok_X10_logged f_X10_logged
  rcases K with ⟨k1, k2⟩ | ⟨k1, k2, i, hi, rfl⟩
  · rw [k1, k2, if_pos rfl, if_neg (by decide), if_pos rfl]
    exact ⟨⟨trivial, trivial⟩, RC.x1 (by decide), h.thr 1⟩
  · rw [k1, k2, if_neg (by decide), if_pos rfl, if_neg (by decide)]
    have ei : ((91 : Int32) + (3 : Int32) * nI i) + 0 = nI (91 + 3 * i + 0) := by rw [q_91, q_3, pk_mul, nI_add, q_0, nI_add]
    refine ⟨⟨⟨by rw [ei]; exact in_lit _ (by omega), trivial⟩, trivial⟩, ?_, h.thr 0⟩
    refine RC.ok ?_
    show f_X0_personAt v.2.2.2.2.2 (nI i) = d.1 (((91 : Int32) + (3 : Int32) * nI i) + 0).toNatClampNeg
    rw [ei, nI_clamp (by omega)]
    unfold f_X0_personAt f_X0_placeOf
    rw [q2, q_1, pk_sub (by omega), pk_sub (by omega), q_10, n_fm (by omega) (by decide) (by decide), n_at _ (Nat.mod_lt _ (by decide)) (by decide)]
    exact ((q6 i hi).1).symm
theorem R_loggedDoor {B : Nat} {q : McV} {v sn : StV} {hi : HiV} {hs : Nat → StV} {tb nt : SbV} {d : MoV} (h : RW B q v sn hi hs tb nt d) (x : Int32) (hB : B < 2 ^ 30) : ok_X10_loggedDoor d x ∧ RC ["java/util/NoSuchElementException"] (f_X9_loggedDoor q v x).1 (f_X9_loggedDoor q v x).2 (f_X10_loggedDoor d x).1 (f_X10_loggedDoor d x).2.2.2.2.2.2.1 ∧ RW B q v sn hi hs tb nt (f_X10_loggedDoor d x).2 := by
  obtain ⟨t, c, ht, hc, hc2, e1, e2, e3, e4, hD, hE, hP, hA⟩ := id h.1
  obtain ⟨na, q1, q2, q3, q4, q5, q6, q7⟩ := id hA
  have K : (f_X9_requireElement (f_X0_remembers v.2.2.2.2.2 x) = "java/util/NoSuchElementException" ∧ f_X10_isIn x 0 (d.1 (5 : Int32).toNatClampNeg - 1) = 0) ∨ (f_X9_requireElement (f_X0_remembers v.2.2.2.2.2 x) = "" ∧ f_X10_isIn x 0 (d.1 (5 : Int32).toNatClampNeg - 1) = 1 ∧ ∃ i, i < min na 10 ∧ x = nI i) := by
    unfold f_X9_requireElement f_X0_remembers f_X10_isIn
    simp only [show ((5 : Int32).toNatClampNeg) = 5 from rfl, q2, q3, q_pred (show min na 10 < 2 ^ 31 by omega) x]
    rcases q_arg x (show min na 10 < 2 ^ 31 by omega) with g | g | ⟨i, g, rfl⟩
    · left; rw [if_pos g, if_pos g, if_pos rfl]; exact ⟨rfl, rfl⟩
    · left
      by_cases g0 : x < 0
      · rw [if_pos g0, if_pos g0, if_pos rfl]; exact ⟨rfl, rfl⟩
      · rw [if_neg g0, if_neg g0, if_pos g]
        refine ⟨?_, rfl⟩
        obtain ⟨i, hi, rfl⟩ := nI_of g0
        rw [nI_leI (by omega) hi] at g
        rw [q_10]
        by_cases h10 : 10 ≤ i
        · rw [if_pos (nI_le h10 hi), if_pos rfl]
        · rw [if_neg (nI_ge (by omega) (by decide)), if_pos (nI_le (by omega) hi), if_pos rfl]
    · right
      rw [if_neg (nI_pos (by omega)), if_neg (nI_pos (by omega)), if_neg (nI_ge g (by omega)), q_10, if_neg (nI_ge (by omega) (by decide)), if_neg (nI_ge (by omega) (by omega)), if_neg (by decide)]
      exact ⟨rfl, rfl, i, g, rfl⟩
  unfold ok_X10_loggedDoor f_X9_loggedDoor f_X10_loggedDoor ok_X10_logged f_X10_logged
  rcases K with ⟨k1, k2⟩ | ⟨k1, k2, i, hi, rfl⟩
  · rw [k1, k2, if_pos rfl, if_neg (by decide), if_pos rfl]
    exact ⟨⟨trivial, trivial⟩, RC.x1 (by decide), h.thr 1⟩
  · rw [k1, k2, if_neg (by decide), if_pos rfl, if_neg (by decide)]
    have ei : ((91 : Int32) + (3 : Int32) * nI i) + 1 = nI (91 + 3 * i + 1) := by rw [q_91, q_3, pk_mul, nI_add, q_1, nI_add]
    refine ⟨⟨⟨by rw [ei]; exact in_lit _ (by omega), trivial⟩, trivial⟩, ?_, h.thr 0⟩
    refine RC.ok ?_
    show f_X0_doorAt v.2.2.2.2.2 (nI i) = d.1 (((91 : Int32) + (3 : Int32) * nI i) + 1).toNatClampNeg
    rw [ei, nI_clamp (by omega)]
    unfold f_X0_doorAt f_X0_placeOf
    rw [q2, q_1, pk_sub (by omega), pk_sub (by omega), q_10, n_fm (by omega) (by decide) (by decide), n_at _ (Nat.mod_lt _ (by decide)) (by decide)]
    exact ((q6 i hi).2.1).symm
theorem R_loggedResult {B : Nat} {q : McV} {v sn : StV} {hi : HiV} {hs : Nat → StV} {tb nt : SbV} {d : MoV} (h : RW B q v sn hi hs tb nt d) (x : Int32) (hB : B < 2 ^ 30) : ok_X10_loggedResult d x ∧ RC ["java/util/NoSuchElementException"] (f_X9_loggedResult q v x).1 (f_X9_loggedResult q v x).2 (f_X10_loggedResult d x).1 (f_X10_loggedResult d x).2.2.2.2.2.2.1 ∧ RW B q v sn hi hs tb nt (f_X10_loggedResult d x).2 := by
  obtain ⟨t, c, ht, hc, hc2, e1, e2, e3, e4, hD, hE, hP, hA⟩ := id h.1
  obtain ⟨na, q1, q2, q3, q4, q5, q6, q7⟩ := id hA
  have K : (f_X9_requireElement (f_X0_remembers v.2.2.2.2.2 x) = "java/util/NoSuchElementException" ∧ f_X10_isIn x 0 (d.1 (5 : Int32).toNatClampNeg - 1) = 0) ∨ (f_X9_requireElement (f_X0_remembers v.2.2.2.2.2 x) = "" ∧ f_X10_isIn x 0 (d.1 (5 : Int32).toNatClampNeg - 1) = 1 ∧ ∃ i, i < min na 10 ∧ x = nI i) := by
    unfold f_X9_requireElement f_X0_remembers f_X10_isIn
    simp only [show ((5 : Int32).toNatClampNeg) = 5 from rfl, q2, q3, q_pred (show min na 10 < 2 ^ 31 by omega) x]
    rcases q_arg x (show min na 10 < 2 ^ 31 by omega) with g | g | ⟨i, g, rfl⟩
    · left; rw [if_pos g, if_pos g, if_pos rfl]; exact ⟨rfl, rfl⟩
    · left
      by_cases g0 : x < 0
      · rw [if_pos g0, if_pos g0, if_pos rfl]; exact ⟨rfl, rfl⟩
      · rw [if_neg g0, if_neg g0, if_pos g]
        refine ⟨?_, rfl⟩
        obtain ⟨i, hi, rfl⟩ := nI_of g0
        rw [nI_leI (by omega) hi] at g
        rw [q_10]
        by_cases h10 : 10 ≤ i
        · rw [if_pos (nI_le h10 hi), if_pos rfl]
        · rw [if_neg (nI_ge (by omega) (by decide)), if_pos (nI_le (by omega) hi), if_pos rfl]
    · right
      rw [if_neg (nI_pos (by omega)), if_neg (nI_pos (by omega)), if_neg (nI_ge g (by omega)), q_10, if_neg (nI_ge (by omega) (by decide)), if_neg (nI_ge (by omega) (by omega)), if_neg (by decide)]
      exact ⟨rfl, rfl, i, g, rfl⟩
  unfold ok_X10_loggedResult f_X9_loggedResult f_X10_loggedResult ok_X10_logged f_X10_logged
  rcases K with ⟨k1, k2⟩ | ⟨k1, k2, i, hi, rfl⟩
  · rw [k1, k2, if_pos rfl, if_neg (by decide), if_pos rfl]
    exact ⟨⟨trivial, trivial⟩, RC.x1 (by decide), h.thr 1⟩
  · rw [k1, k2, if_neg (by decide), if_pos rfl, if_neg (by decide)]
    have ei : ((91 : Int32) + (3 : Int32) * nI i) + 2 = nI (91 + 3 * i + 2) := by rw [q_91, q_3, pk_mul, nI_add, q_2, nI_add]
    refine ⟨⟨⟨by rw [ei]; exact in_lit _ (by omega), trivial⟩, trivial⟩, ?_, h.thr 0⟩
    refine RC.ok ?_
    show f_X0_resultAt v.2.2.2.2.2 (nI i) = d.1 (((91 : Int32) + (3 : Int32) * nI i) + 2).toNatClampNeg
    rw [ei, nI_clamp (by omega)]
    unfold f_X0_resultAt f_X0_placeOf
    rw [q2, q_1, pk_sub (by omega), pk_sub (by omega), q_10, n_fm (by omega) (by decide) (by decide), n_at _ (Nat.mod_lt _ (by decide)) (by decide)]
    exact ((q6 i hi).2.2).symm
theorem R_attemptsWith {B : Nat} {q : McV} {v sn : StV} {hi : HiV} {hs : Nat → StV} {tb nt : SbV} {d : MoV} (h : RW B q v sn hi hs tb nt d) (x : Int32) : ok_X10_attemptsWith d x ∧ RC ["java/lang/IllegalArgumentException"] (f_X9_attemptsWith q v x).1 (f_X9_attemptsWith q v x).2 (f_X10_attemptsWith d x).1 (f_X10_attemptsWith d x).2.2.2.2.2.2.1 ∧ RW B q v sn hi hs tb nt (f_X10_attemptsWith d x).2 := by
  obtain ⟨t, c, ht, hc, hc2, e1, e2, e3, e4, hD, hE, hP, hA⟩ := id h.1
  obtain ⟨na, q1, q2, q3, q4, q5, q6, q7⟩ := id hA
  unfold ok_X10_attemptsWith f_X9_attemptsWith f_X10_attemptsWith
  rcases g_rng x 0 4 with ⟨r1, r2⟩ | ⟨r1, r2, r3, r4⟩
  · rw [r1, r2, if_pos rfl, if_neg (by decide), if_pos rfl]
    exact ⟨trivial, RC.x1 (by decide), h.thr 1⟩
  · rw [r1, r2, if_neg (by decide), if_pos rfl, if_neg (by decide)]
    obtain ⟨j, -, hj, rfl⟩ := g_nat (lo := 0) (n := 4) (by decide) (by decide) r3 r4
    have ei : (6 : Int32) + nI j = nI (6 + j) := by rw [q_6, nI_add]
    refine ⟨⟨by rw [ei]; exact in_lit _ (by omega), trivial⟩, RC.ok ?_, h.thr 0⟩
    show f_X0_countResults v.2.2.2.2.2 (nI j) = d.1 ((6 : Int32) + nI j).toNatClampNeg
    rw [ei, nI_clamp (by omega)]
    unfold f_X0_countResults
    rw [n_at _ (by omega) (by decide)]
    exact (q5 j (by omega)).symm
theorem R_exceptionDoor {B : Nat} {q : McV} {v sn : StV} {hi : HiV} {hs : Nat → StV} {tb nt : SbV} {d : MoV} (h : RW B q v sn hi hs tb nt d) (x : Int32) : ok_X10_exceptionDoor d x ∧ RC ["java/util/NoSuchElementException"] (f_X9_exceptionDoor q v x).1 (f_X9_exceptionDoor q v x).2 (f_X10_exceptionDoor d x).1 (f_X10_exceptionDoor d x).2.2.2.2.2.2.1 ∧ RW B q v sn hi hs tb nt (f_X10_exceptionDoor d x).2 := by
  obtain ⟨t, c, ht, hc, hc2, e1, e2, e3, e4, hD, hE, hP, hA⟩ := id h.1
  obtain ⟨n, n1, n2, n3, n4⟩ := id hE
  unfold ok_X10_exceptionDoor f_X9_exceptionDoor f_X10_exceptionDoor ok_X10_tellsException f_X10_tellsException
  have em : f_X10_isIn x 0 (d.1 (4 : Int32).toNatClampNeg - 1) = f_X1_holds v.2.2.2.1 x := by
    unfold f_X10_isIn f_X1_holds
    simp only [show ((4 : Int32).toNatClampNeg) = 4 from rfl, n3, n2, q_pred (show n < 2 ^ 31 by omega) x]
  rw [em]
  unfold f_X9_requireElement
  rcases h_ex v.2.2.2.1 n1 n2 x with e | ⟨e, i, hi, rfl⟩
  · rw [e, if_pos rfl, if_pos rfl, if_neg (by decide), if_pos rfl]
    exact ⟨⟨trivial, trivial⟩, RC.x1 (by decide), h.thr 1⟩
  · simp only [e, L10, ite_false, eq_self, ite_true, m_thr0]
    obtain ⟨a1, a2⟩ := m_ofE (mo5 d 0) (j := i) (w := 1) (by omega) (by decide)
    refine ⟨⟨⟨a2, trivial⟩, trivial⟩, RC.ok ?_, h.thr 0⟩
    unfold f_X1_doorAt
    rw [n_at _ (by omega) (by decide)]
    exact ((n4 i hi).2.1).symm.trans a1.symm
theorem R_exceptionDay {B : Nat} {q : McV} {v sn : StV} {hi : HiV} {hs : Nat → StV} {tb nt : SbV} {d : MoV} (h : RW B q v sn hi hs tb nt d) (x : Int32) : ok_X10_exceptionDay d x ∧ RC ["java/util/NoSuchElementException"] (f_X9_exceptionDay q v x).1 (f_X9_exceptionDay q v x).2 (f_X10_exceptionDay d x).1 (f_X10_exceptionDay d x).2.2.2.2.2.2.1 ∧ RW B q v sn hi hs tb nt (f_X10_exceptionDay d x).2 := by
  obtain ⟨t, c, ht, hc, hc2, e1, e2, e3, e4, hD, hE, hP, hA⟩ := id h.1
  obtain ⟨n, n1, n2, n3, n4⟩ := id hE
  unfold ok_X10_exceptionDay f_X9_exceptionDay f_X10_exceptionDay ok_X10_tellsException f_X10_tellsException
  have em : f_X10_isIn x 0 (d.1 (4 : Int32).toNatClampNeg - 1) = f_X1_holds v.2.2.2.1 x := by
    unfold f_X10_isIn f_X1_holds
    simp only [show ((4 : Int32).toNatClampNeg) = 4 from rfl, n3, n2, q_pred (show n < 2 ^ 31 by omega) x]
  rw [em]
  unfold f_X9_requireElement
  rcases h_ex v.2.2.2.1 n1 n2 x with e | ⟨e, i, hi, rfl⟩
  · rw [e, if_pos rfl, if_pos rfl, if_neg (by decide), if_pos rfl]
    exact ⟨⟨trivial, trivial⟩, RC.x1 (by decide), h.thr 1⟩
  · simp only [e, L10, ite_false, eq_self, ite_true, m_thr0]
    obtain ⟨a1, a2⟩ := m_ofE (mo5 d 0) (j := i) (w := 0) (by omega) (by decide)
    refine ⟨⟨⟨a2, trivial⟩, trivial⟩, RC.ok ?_, h.thr 0⟩
    unfold f_X1_dayAt
    rw [n_at _ (by omega) (by decide)]
    exact ((n4 i hi).1).symm.trans a1.symm
