/-! ===== time, moon, doors' hours, exceptions of days, keys: class against reference ===== -/
theorem c_today {v : StV} {t : Nat} (h : v.1 = nI t) (ht : t < 2 ^ 31) : f_X8_today v = nI (t / 24) := by
  unfold f_X8_today; rw [h]; exact n_fd ht
theorem c_hour {v : StV} {t : Nat} (h : v.1 = nI t) (ht : t < 2 ^ 31) : f_X8_hourNow v = nI (t % 24) := by
  unfold f_X8_hourNow; rw [h, q_24]; exact n_fm ht (by decide) (by decide)
theorem m_today {d : MoV} {t : Nat} (h : d.1 0 = nI t) (ht : t < 2 ^ 31) : f_X10_today d = nI (t / 24) := by
  unfold f_X10_today
  rw [show ((0 : Int32).toNatClampNeg) = 0 from rfl, h, q_24]; exact n_div ht (by decide) (by decide)
theorem c_phase {v : StV} {c y : Nat} (h : v.2.1 = nI c) (hc : 24 ≤ c) (hc2 : c ≤ 32) (hy : y < 2 ^ 31) : f_X8_phaseFor v (nI y) = nI (y % c * 8 / c) := by
  have h1 : y % c < c := Nat.mod_lt _ (by omega)
  unfold f_X8_phaseFor
  rw [h, if_pos (show (0 : Int32) < nI c from nI_lt (a := 0) (by omega) (by omega)), n_fm hy (by omega) (by omega), q_8, pk_mul]
  exact n_div (by omega) (by omega) (by omega)
theorem m_phase {d : MoV} {c y : Nat} (h : d.1 1 = nI c) (hc : 24 ≤ c) (hc2 : c ≤ 32) (hy : y < 2 ^ 31) : f_X10_phase d (nI y) = nI (y % c * 8 / c) ∧ ok_X10_phase d (nI y) := by
  have h1 : y % c < c := Nat.mod_lt _ (by omega)
  have h2 : ¬ nI c = 0 := nI_ne0 (by omega) (by omega)
  unfold f_X10_phase ok_X10_phase
  rw [show ((1 : Int32).toNatClampNeg) = 1 from rfl, h, n_rem hy (by omega) (by omega), q_8, pk_mul]
  exact ⟨n_div (by omega) (by omega) (by omega), h2, h2, trivial⟩
theorem RD.get {v : DoV} {s : Nat → Int32} (h : RD v s) {j : Nat} (hj : j < 8) : v.2.1 j = s (11 + 4 * j) ∧ v.2.2.1 j = s (11 + 4 * j + 1) ∧ v.2.2.2.1 j = s (11 + 4 * j + 2) ∧ v.2.2.2.2 j = s (11 + 4 * j + 3) := by
  obtain ⟨n, -, -, -, h4⟩ := h
  obtain ⟨a, b, c, e, -, -, -, -, r1, r2, r3, r4, r5, r6, r7, r8⟩ := h4 j hj
  rw [r1, r2, r3, r4, r5, r6, r7, r8]
  exact ⟨rfl, rfl, rfl, rfl⟩
theorem c_cph {v : DoV} {d : MoV} (h : RD v d.1) {j c y : Nat} (hj : j < 8) (hc0 : d.1 1 = nI c) (hc : 24 ≤ c) (hc2 : c ≤ 32) (hy : y < 2 ^ 31) : f_X2_containsPhase v (nI j) (nI (y % c * 8 / c)) = f_X10_isPhaseOf d (nI j) (nI y) ∧ ok_X10_isPhaseOf d (nI j) (nI y) := by
  obtain ⟨g1, g2⟩ := m_of d hj (w := 0) (by decide)
  obtain ⟨g3, g4⟩ := m_phase (d := d) hc0 hc hc2 hy
  unfold f_X2_containsPhase f_X10_isPhaseOf ok_X10_isPhaseOf
  rw [n_at _ hj (by decide), g3, show (0 : Int32) = nI 0 from rfl, g1, (h.get hj).1]
  exact ⟨rfl, g2, g4, trivial⟩
theorem c_chr {v : DoV} {d : MoV} (h : RD v d.1) {j : Nat} (hj : j < 8) (x : Int32) : f_X2_containsHour v (nI j) x = f_X10_isOwnHour d (nI j) x ∧ ok_X10_isOwnHour d (nI j) x := by
  obtain ⟨g1, g2⟩ := m_of d hj (w := 1) (by decide)
  obtain ⟨g3, g4⟩ := m_of d hj (w := 2) (by decide)
  unfold f_X2_containsHour f_X10_isOwnHour ok_X10_isOwnHour
  rw [n_at _ hj (by decide), n_at _ hj (by decide), show (1 : Int32) = nI 1 from rfl, show (2 : Int32) = nI 2 from rfl, g1, g3, (h.get hj).2.1, (h.get hj).2.2.1]
  exact ⟨rfl, g2, g4, trivial⟩
theorem c_key {v : DoV} {d : MoV} (h : RD v d.1) {j : Nat} (hj : j < 8) : f_X2_keyFor v (nI j) = f_X10_of d (nI j) 3 ∧ ok_X10_of d (nI j) 3 ∧ ∃ e, e < 8 ∧ f_X10_of d (nI j) 3 = nI e := by
  obtain ⟨g1, g2⟩ := m_of d hj (w := 3) (by decide)
  unfold f_X2_keyFor
  rw [n_at _ hj (by decide), q_3, g1, (h.get hj).2.2.2]
  obtain ⟨n, -, -, -, h4⟩ := h
  obtain ⟨a, b, c, e, -, -, -, he, r1, r2, r3, r4, r5, r6, r7, r8⟩ := h4 j hj
  exact ⟨rfl, g2, e, he, r8⟩
/-! exceptions of days -/
theorem c_place_lp {E : ExV} {d : MoV} {n : Nat} (hn : n ≤ 12) (h1 : E.1 = nI n) (h2 : d.1 4 = nI n) (h3 : ∀ i, i < n → d.1 (55 + 3 * i) = E.2.2.1 i ∧ d.1 (55 + 3 * i + 1) = E.2.1 i) (dr dy : Int32) : ∀ (k i : Nat), i + k = n + 1 →
    okl_lp_X10_place_2 d dr dy k (nI i) ∧ (k ≠ 0 → (lp_X1_positionOf_2 E dr dy k (nI i) = -1 ∧ lp_X10_place_2 d dr dy k (nI i) = -1 ∨ ∃ j, j < n ∧ lp_X1_positionOf_2 E dr dy k (nI i) = nI j ∧ lp_X10_place_2 d dr dy k (nI i) = nI j)) := by
  intro k
  induction k with
  | zero => intro i _; exact ⟨trivial, fun h => absurd rfl h⟩
  | succ k ih =>
    intro i hi
    show (if (d.1 (4 : Int32).toNatClampNeg) ≤ nI i then True else (ok_X10_ofException d (nI i) 1 ∧ (if (f_X10_ofException d (nI i) 1) = dr then (ok_X10_ofException d (nI i) 0 ∧ (if (f_X10_ofException d (nI i) 0) = dy then True else (okl_lp_X10_place_2 d dr dy k (nI i + 1)))) else (okl_lp_X10_place_2 d dr dy k (nI i + 1))))) ∧
      (_ → ((if E.1 ≤ nI i then (-1 : Int32) else (if (f_X7_at 12 E.2.2.1 (nI i)) = dy then (if (f_X7_at 12 E.2.1 (nI i)) = dr then nI i else (lp_X1_positionOf_2 E dr dy k (nI i + 1))) else (lp_X1_positionOf_2 E dr dy k (nI i + 1)))) = -1 ∧
        (if (d.1 (4 : Int32).toNatClampNeg) ≤ nI i then (-1 : Int32) else (if (f_X10_ofException d (nI i) 1) = dr then (if (f_X10_ofException d (nI i) 0) = dy then nI i else (lp_X10_place_2 d dr dy k (nI i + 1))) else (lp_X10_place_2 d dr dy k (nI i + 1)))) = -1 ∨ ∃ j, j < n ∧
        (if E.1 ≤ nI i then (-1 : Int32) else (if (f_X7_at 12 E.2.2.1 (nI i)) = dy then (if (f_X7_at 12 E.2.1 (nI i)) = dr then nI i else (lp_X1_positionOf_2 E dr dy k (nI i + 1))) else (lp_X1_positionOf_2 E dr dy k (nI i + 1)))) = nI j ∧
        (if (d.1 (4 : Int32).toNatClampNeg) ≤ nI i then (-1 : Int32) else (if (f_X10_ofException d (nI i) 1) = dr then (if (f_X10_ofException d (nI i) 0) = dy then nI i else (lp_X10_place_2 d dr dy k (nI i + 1))) else (lp_X10_place_2 d dr dy k (nI i + 1)))) = nI j))
    rw [show ((4 : Int32).toNatClampNeg) = 4 from rfl, h2, h1]
    by_cases hik : n ≤ i
    · have g := nI_le hik (show i < 2 ^ 31 by omega)
      rw [if_pos g, if_pos g, if_pos g]
      exact ⟨trivial, fun _ => Or.inl ⟨rfl, rfl⟩⟩
    · have g := nI_ge (show i < n by omega) (show n < 2 ^ 31 by omega)
      obtain ⟨e1, o1⟩ := m_ofE d (j := i) (w := 1) (by omega) (by decide)
      obtain ⟨e0, o0⟩ := m_ofE d (j := i) (w := 0) (by omega) (by decide)
      obtain ⟨r0, r1⟩ := h3 i (by omega)
      obtain ⟨K1, K2⟩ := ih (i + 1) (by omega)
      have K2 := K2 (by omega)
      rw [← nI_1] at K1 K2
      simp only [if_neg g]
      rw [n_at _ (show i < 12 by omega) (by decide), n_at _ (show i < 12 by omega) (by decide), show (1 : Int32) = nI 1 from rfl, show (0 : Int32) = nI 0 from rfl, e1, e0, r1, Nat.add_zero, r0]
      rw [← (show (1 : Int32) = nI 1 from rfl)] at *
      by_cases ha : E.2.1 i = dr
      · by_cases hb : E.2.2.1 i = dy
        · simp only [if_pos ha, if_pos hb]
          exact ⟨⟨o1, o0, trivial⟩, fun _ => Or.inr ⟨i, by omega, rfl, rfl⟩⟩
        · simp only [if_pos ha, if_neg hb]
          exact ⟨⟨o1, o0, K1⟩, fun _ => K2⟩
      · simp only [if_neg ha, ite_self]
        exact ⟨⟨o1, K1⟩, fun _ => K2⟩
/-- where a day's exception lies, in both -/
theorem c_place {E : ExV} {d : MoV} (h : RE E d.1) (dr dy : Int32) : ok_X10_place d dr dy ∧ (f_X1_positionOf E dr dy = -1 ∧ f_X10_place d dr dy = -1 ∨ ∃ n j, n ≤ 12 ∧ E.1 = nI n ∧ j < n ∧ f_X1_positionOf E dr dy = nI j ∧ f_X10_place d dr dy = nI j) := by
  obtain ⟨n, hn, h1, h2, h3⟩ := h
  have := c_place_lp hn h1 h2 (fun i hi => ⟨(h3 i hi).1, (h3 i hi).2.1⟩) dr dy (n + 1) 0 (by omega)
  unfold f_X1_positionOf f_X10_place ok_X10_place
  rw [show ((4 : Int32).toNatClampNeg) = 4 from rfl, h1, h2, nI_toInt (by omega), show (0 : Int32).toInt = 0 from rfl, show ((n : Int) - 0).toNat + 1 = n + 1 by omega, show (0 : Int32) = nI 0 from rfl]
  refine ⟨this.1, ?_⟩
  rcases this.2 (by omega) with g | ⟨j, g1, g2, g3⟩
  · exact Or.inl g
  · exact Or.inr ⟨n, j, hn, rfl, g1, g2, g3⟩
/-- a day's exception: none, or one that opens, or one that shuts -/
theorem c_eff {E : ExV} {d : MoV} (h : RE E d.1) (dr dy : Int32) : ok_X10_place d dr dy ∧ (f_X1_effectAt E (f_X1_positionOf E dr dy) = 0 ∧ f_X10_place d dr dy = -1 ∨ ∃ j, j < 12 ∧ f_X10_place d dr dy = nI j ∧ ok_X10_ofException d (nI j) 2 ∧ (f_X1_effectAt E (f_X1_positionOf E dr dy) = 1 ∧ f_X10_ofException d (nI j) 2 = 1 ∨ f_X1_effectAt E (f_X1_positionOf E dr dy) = 2 ∧ f_X10_ofException d (nI j) 2 = 0)) := by
  obtain ⟨ok, h4⟩ := c_place h dr dy
  refine ⟨ok, ?_⟩
  rcases h4 with ⟨g1, g2⟩ | ⟨n, j, hn, g0, g1, g2, g3⟩
  · left
    rw [g1]
    refine ⟨?_, g2⟩
    unfold f_X1_effectAt f_X1_holds
    rw [if_pos (show (-1 : Int32) < 0 by decide), if_pos rfl]
  · right
    obtain ⟨e2, o2⟩ := m_ofE d (j := j) (w := 2) (by omega) (by decide)
    refine ⟨j, by omega, g3, o2, ?_⟩
    have e : f_X1_effectAt E (f_X1_positionOf E dr dy) = E.2.2.2 j := by
      rw [g2]
      unfold f_X1_effectAt f_X1_holds
      rw [g0, if_neg (nI_pos (by omega)), if_neg (nI_ge g1 (by omega)), if_neg (by decide), n_at _ (by omega) (by decide)]
    rw [e, show (2 : Int32) = nI 2 from rfl, e2]
    obtain ⟨n', hn', k1, k2, k3⟩ := h
    have en : n' = n := by
      have := k1.symm.trans g0
      exact (nI_eq (by omega) (by omega)).mp this
    subst en
    exact (k3 j g1).2.2
theorem c_unl {B : Nat} {v : StV} {d : MoV} (h : RS B v d.1) {j tm : Nat} (hj : j < 8) (ht : tm < 2 ^ 31) : f_X8_isUnlockedAt v (nI j) (nI tm) = f_X10_unlocked d (nI j) (nI tm) ∧ ok_X10_unlocked d (nI j) (nI tm) ∧ (f_X10_unlocked d (nI j) (nI tm) = 0 ∨ f_X10_unlocked d (nI j) (nI tm) = 1) := by
  obtain ⟨t, c, h1, hc, hc2, h4, h5, h6, h7, hD, hE, hP, hA⟩ := h
  obtain ⟨o1, K⟩ := c_eff hE (nI j) (nI (tm / 24))
  obtain ⟨p1, p2⟩ := c_cph hD hj h7 hc hc2 (y := tm / 24) (by omega)
  obtain ⟨r1, r2⟩ := c_chr hD hj (nI (tm % 24))
  unfold f_X8_isUnlockedAt f_X10_unlocked ok_X10_unlocked
  have e24 : f_J9_floorMod_7cf53 (nI tm) 24 = nI (tm % 24) := n_fm ht (by decide) (by decide)
  have d24 : nI tm / 24 = nI (tm / 24) := n_div ht (by decide) (by decide)
  have m24 : nI tm - nI (tm / 24) * 24 = nI (tm % 24) := by rw [← d24]; exact n_rem ht (by decide) (by decide)
  simp only [n_fd ht, d24, m24, e24, c_phase h6 hc hc2 (show tm / 24 < 2 ^ 31 by omega), p1, r1]
  rcases K with ⟨k1, k2⟩ | ⟨i, hi, k1, k2, ⟨k3, k4⟩ | ⟨k3, k4⟩⟩
  · simp only [k1, k2, eq_self, ite_true, eq_true (show (-1 : Int32) < 0 by decide)]
    refine ⟨trivial, ⟨o1, p2, ?_⟩, ?_⟩
    · split
      · trivial
      · exact ⟨r2, trivial⟩
    · split
      · exact Or.inl rfl
      · split
        · exact Or.inl rfl
        · exact Or.inr rfl
  · have g : (nI i < 0) = False := eq_false (nI_pos (by omega))
    simp only [k1, k3, k4, g, eq_false (show ¬ (1 : Int32) = 0 by decide), eq_self, ite_true, ite_false]
    exact ⟨trivial, ⟨o1, k2, trivial⟩, Or.inr trivial⟩
  · have g : (nI i < 0) = False := eq_false (nI_pos (by omega))
    simp only [k1, k3, k4, g, eq_false (show ¬ (2 : Int32) = 0 by decide), eq_false (show ¬ (2 : Int32) = 1 by decide), eq_false (show ¬ (0 : Int32) = 1 by decide), eq_self, ite_true, ite_false]
    exact ⟨trivial, ⟨o1, k2, trivial⟩, Or.inl trivial⟩
theorem RP.get {B : Nat} {v : PeV} {s : Nat → Int32} (h : RP B v s) {j : Nat} (hj : j < 6) : v.2.1 j = s (43 + 2 * j) ∧ v.2.2 j = s (43 + 2 * j + 1) := by
  obtain ⟨n, -, -, -, h4⟩ := h
  obtain ⟨a, e, -, -, r1, r2, r3, r4⟩ := h4 j hj
  rw [r1, r2, r3, r4]
  exact ⟨rfl, rfl⟩
theorem c_has {B : Nat} {v : PeV} {d : MoV} (h : RP B v d.1) {j : Nat} (hj : j < 6) (k : Int32) : f_X5_ringContains v (nI j) k = f_X10_has d (nI j) k ∧ ok_X10_has d (nI j) k ∧ (f_X10_has d (nI j) k = 0 ∨ f_X10_has d (nI j) k = 1) := by
  obtain ⟨g1, g2⟩ := m_ofP d hj (w := 0) (by decide)
  unfold f_X5_ringContains f_X10_has ok_X10_has
  rw [n_at _ hj (by decide)]
  have g2 : ok_X10_ofPerson d (nI j) 0 := g2
  have g1 : f_X10_ofPerson d (nI j) 0 = d.1 (43 + 2 * j) := g1
  rcases m_keyCase k with ⟨e1, e2⟩ | ⟨e1, i, hi, rfl⟩
  · rw [e1, if_pos rfl, if_pos rfl]
    refine ⟨?_, trivial, Or.inl rfl⟩
    rcases e2 with e2 | e2
    · exact if_pos e2
    · rw [if_pos e2, ite_self]
  · rw [e1, if_neg (show ¬ (1 : Int32) = 0 by decide), if_neg (show ¬ (1 : Int32) = 0 by decide), g1, if_neg (nI_pos (by omega)), q_8, if_neg (nI_ge hi (by decide)), (h.get hj).1]
    refine ⟨rfl, ⟨g2, trivial⟩, ?_⟩
    split
    · exact Or.inr rfl
    · exact Or.inl rfl
theorem c_res {B : Nat} {v : StV} {d : MoV} (h : RS B v d.1) (hB : B < 2 ^ 31) {i j : Nat} (hi : i < 6) (hj : j < 8) : f_X8_resultFor v (nI i) (nI j) = f_X10_result d (nI i) (nI j) ∧ ok_X10_result d (nI i) (nI j) ∧ ∃ r, r < 5 ∧ f_X10_result d (nI i) (nI j) = nI r := by
  obtain ⟨t, c, h1, hc, hc2, h4, h5, h6, h7, hD, hE, hP, hA⟩ := h
  have ht : t < 2 ^ 31 := by omega
  obtain ⟨o1, K⟩ := c_eff hE (nI j) (nI (t / 24))
  obtain ⟨p1, p2⟩ := c_cph hD hj h7 hc hc2 (y := t / 24) (by omega)
  obtain ⟨r1, r2⟩ := c_chr hD hj (nI (t % 24))
  obtain ⟨s1, s2, -⟩ := c_key hD hj
  obtain ⟨w1, w2, w3⟩ := c_has hP hi (f_X10_of d (nI j) 3)
  unfold f_X8_resultFor f_X10_result ok_X10_result
  have d24 : nI t / 24 = nI (t / 24) := n_div ht (by decide) (by decide)
  have m24 : nI t - nI (t / 24) * 24 = nI (t % 24) := by rw [← d24]; exact n_rem ht (by decide) (by decide)
  simp only [c_today h4 ht, c_hour h4 ht, m_today h5 ht, s1, w1, c_phase h6 hc hc2 (show t / 24 < 2 ^ 31 by omega), p1, r1, show ((0 : Int32).toNatClampNeg) = 0 from rfl, h5, d24, m24]
  rcases K with ⟨k1, k2⟩ | ⟨a, ha, k1, k2, ⟨k3, k4⟩ | ⟨k3, k4⟩⟩
  · simp only [k1, k2, eq_true (show (-1 : Int32) < 0 by decide), eq_false (show ¬ (0 : Int32) = 2 by decide), eq_false (show ¬ (0 : Int32) = 1 by decide), ite_true, ite_false]
    refine ⟨trivial, ?_, ?_⟩
    · simp only [o1, s2, w2, p2, r2, true_and, and_true, ite_self]
    · split
      · exact ⟨2, by decide, rfl⟩
      · split
        · exact ⟨3, by decide, rfl⟩
        · split
          · exact ⟨4, by decide, rfl⟩
          · exact ⟨0, by decide, rfl⟩
  · have g : (nI a < 0) = False := eq_false (nI_pos (by omega))
    simp only [k1, k3, k4, g, eq_false (show ¬ (1 : Int32) = 2 by decide), eq_self, ite_true, ite_false]
    refine ⟨trivial, ?_, ?_⟩
    · simp only [o1, k2, s2, w2, true_and, and_true, ite_self]
    · split
      · exact ⟨2, by decide, rfl⟩
      · exact ⟨0, by decide, rfl⟩
  · have g : (nI a < 0) = False := eq_false (nI_pos (by omega))
    simp only [k1, k3, k4, g, eq_self, eq_false (show ¬ (0 : Int32) = 1 by decide), ite_true, ite_false]
    refine ⟨trivial, ?_, 1, by decide, rfl⟩
    simp only [o1, k2, true_and, and_true, ite_self]
