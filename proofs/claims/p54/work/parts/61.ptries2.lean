theorem sTry_fr (s : Nat → Int32) {i j r m q : Nat} (h5 : q ≠ 5) (h6 : q ≠ 6 + r) (hA : q ≠ 121 + 2 * j + (if r = 0 then 0 else 1)) (hP : q ≠ 43 + 2 * i + 1) (hL : q < 91 ∨ 121 ≤ q) : sTry s i j r m q = s q := by
  unfold sTry
  rw [upd_ne _ _ hP, upd_ne _ _ hA, upd_ne _ _ h6, upd_ne _ _ h5, upd_ne _ _ (by omega), upd_ne _ _ (by omega), upd_ne _ _ (by omega)]
  exact if_neg (by omega)
theorem i32_alc (a b c : Int32) : a + (b + c) = b + (a + c) := by rw [← Int32.add_assoc, Int32.add_comm a b, Int32.add_assoc]
theorem zr (r : Nat) : (if r = 0 then 0 else 1 : Nat) < 2 := by split <;> decide
theorem RA.record {B B' t : Nat} {v : AuV} {s : Nat → Int32} (h : RA B t v s) (hB : B + 1 ≤ B') (hB2 : B' < 2 ^ 30) (ht : t < 2 ^ 30) {i j r : Nat} (hi : i < 6) (hj : j < 8) (hr : r < 5) : ∃ n, n ≤ B ∧ v.1 = nI n ∧ s 5 = nI (min n 10) ∧ RA B' t (f_X0_record v (nI i) (nI j) (nI t) (nI r)) (sTry s i j r (min (n + 1) 10)) := by
  obtain ⟨n, q1, q2, q3, q4, q5, q6, q7⟩ := h
  refine ⟨n, q1, q2, q3, ?_⟩
  have m10 : n % 10 < 10 := Nat.mod_lt _ (by decide)
  have m8 : t % 8 < 8 := Nat.mod_lt _ (by decide)
  have hz := zr r
  have ep : f_J9_floorMod_7cf53 (nI n) 10 = nI (n % 10) := n_fm (by omega) (by decide) (by decide)
  have es : f_X0_slotOf (nI j) (nI t) = nI (j * 8 + t % 8) := by
    unfold f_X0_slotOf
    rw [q_8, n_fm (by omega) (by decide) (by decide), pk_mul, nI_add]
  have er : f_X0_record v (nI i) (nI j) (nI t) (nI r) = (nI (n + 1), (if r = 0 then upd v.2.1 (j * 8 + t % 8) (v.2.1 (j * 8 + t % 8) + 1) else v.2.1), (if r = 0 then v.2.2.1 else upd v.2.2.1 (j * 8 + t % 8) (v.2.2.1 (j * 8 + t % 8) + 1)), upd v.2.2.2.1 r (v.2.2.2.1 r + 1), upd v.2.2.2.2.1 (n % 10) (nI i), upd v.2.2.2.2.2.1 (n % 10) (nI j), upd v.2.2.2.2.2.2 (n % 10) (nI r)) := by
    unfold f_X0_record
    simp only [q2, ep, es]
    rw [n_put _ _ m10 (by decide), n_put _ _ m10 (by decide), n_put _ _ m10 (by decide), n_inc _ hr (by decide), n_inc _ (show j * 8 + t % 8 < 64 by omega) (by decide), n_inc _ (show j * 8 + t % 8 < 64 by omega) (by decide), nI_1]
    by_cases h0 : r = 0
    · subst h0
      rw [if_pos (show nI 0 = 0 from rfl), if_pos rfl, if_pos rfl]
    · rw [if_neg (nI_ne0 (by omega) (by omega)), if_neg h0, if_neg h0]
  rw [er]
  refine ⟨n + 1, by omega, rfl, ?_, ?_, fun r' hr' => ?_, fun k hk => ?_, fun a ha r' hr' => ?_⟩
  · unfold sTry
    rw [upd_ne _ _ (by omega), upd_ne _ _ (by omega), upd_ne _ _ (by omega), upd_eq]
  · have f6 : ∀ x, x < 5 → sTry s i j r (min (n + 1) 10) (6 + x) = if x = r then s (6 + x) + 1 else s (6 + x) := fun x hx => by
      by_cases e : x = r
      · subst e
        rw [if_pos rfl]
        unfold sTry
        rw [upd_ne _ _ (by omega), upd_ne _ _ (by omega), upd_eq]
      · rw [if_neg e]
        exact sTry_fr s (by omega) (by omega) (by omega) (by omega) (by omega)
    have g6 := f6 0 (by decide)
    have g7 := f6 1 (by decide)
    have g8 := f6 2 (by decide)
    have g9 := f6 3 (by decide)
    have g10 := f6 4 (by decide)
    rw [g6, g7, g8, g9, g10, ← nI_1, ← q4]
    rcases (by omega : r = 0 ∨ r = 1 ∨ r = 2 ∨ r = 3 ∨ r = 4) with e | e | e | e | e <;> subst e <;> simp only [Nat.reduceAdd, Nat.reduceEqDiff, ite_true, ite_false, eq_self, Int32.add_comm, i32_alc, Int32.add_assoc]
  · by_cases e : r' = r
    · subst e
      show _ = upd v.2.2.2.1 r' (v.2.2.2.1 r' + 1) r'
      rw [upd_eq]
      unfold sTry
      rw [upd_ne _ _ (by omega), upd_ne _ _ (by omega), upd_eq, q5 r' hr']
    · show _ = upd v.2.2.2.1 r _ r'
      rw [upd_ne _ _ e, sTry_fr s (by omega) (by omega) (by omega) (by omega) (by omega)]
      exact q5 r' hr'
  · have hk10 : k < 10 := by omega
    have L : ∀ w, w < 3 → sTry s i j r (min (n + 1) 10) (91 + 3 * k + w) = if k = 0 then (if w = 0 then nI i else if w = 1 then nI j else nI r) else s (91 + 3 * (k - 1) + w) := fun w hw => by
      by_cases e : k = 0
      · subst e
        rw [if_pos rfl]
        unfold sTry
        rw [upd_ne _ _ (by omega), upd_ne _ _ (by omega), upd_ne _ _ (by omega), upd_ne _ _ (by omega)]
        rcases (by omega : w = 0 ∨ w = 1 ∨ w = 2) with x | x | x <;> subst x
        · rw [upd_ne _ _ (by omega), upd_ne _ _ (by omega), upd_eq, if_pos rfl]
        · rw [upd_ne _ _ (by omega), upd_eq, if_neg (by decide), if_pos rfl]
        · rw [upd_eq, if_neg (by decide), if_neg (by decide)]
      · rw [if_neg e]
        unfold sTry
        rw [upd_ne _ _ (by omega), upd_ne _ _ (by omega), upd_ne _ _ (by omega), upd_ne _ _ (by omega), upd_ne _ _ (by omega), upd_ne _ _ (by omega), upd_ne _ _ (by omega)]
        show (if 94 ≤ 91 + 3 * k + w ∧ 91 + 3 * k + w < 121 then s (91 + 3 * k + w - 3) else s (91 + 3 * k + w)) = _
        rw [if_pos (by omega)]
        congr 1
        omega
    have L0 := L 0 (by decide)
    have L1 := L 1 (by decide)
    have L2 := L 2 (by decide)
    simp only [Nat.add_zero] at L0
    rw [L0, L1, L2]
    show _ = upd v.2.2.2.2.1 (n % 10) (nI i) ((n + 1 - 1 - k) % 10) ∧ _ = upd v.2.2.2.2.2.1 (n % 10) (nI j) ((n + 1 - 1 - k) % 10) ∧ _ = upd v.2.2.2.2.2.2 (n % 10) (nI r) ((n + 1 - 1 - k) % 10)
    by_cases e : k = 0
    · subst e
      simp [upd_eq]
    · have ne : (n + 1 - 1 - k) % 10 ≠ n % 10 := by omega
      rw [if_neg e, if_neg e, if_neg e, upd_ne _ _ ne, upd_ne _ _ ne, upd_ne _ _ ne, show n + 1 - 1 - k = n - 1 - (k - 1) by omega]
      have := q6 (k - 1) (by omega)
      exact this
  · obtain ⟨w1, w2⟩ := q7 a ha r' hr'
    have M : ∀ z, z < 2 → sTry s i j r (min (n + 1) 10) (121 + 2 * (8 * a + r') + z) = if a = 0 ∧ r' = j ∧ z = (if r = 0 then 0 else 1) then s (121 + 2 * (8 * a + r') + z) + 1 else s (121 + 2 * (8 * a + r') + z) := fun z hz2 => by
      by_cases e : a = 0 ∧ r' = j ∧ z = (if r = 0 then 0 else 1)
      · rw [if_pos e]
        obtain ⟨ea, ej, ez⟩ := e
        subst ea; subst ej
        have ei : 121 + 2 * (8 * 0 + r') + z = 121 + 2 * r' + (if r = 0 then 0 else 1) := by omega
        rw [ei]
        unfold sTry
        rw [upd_ne _ _ (by omega), upd_eq]
      · rw [if_neg e]
        refine sTry_fr s (by omega) (by omega) (fun e2 => e ?_) (by omega) (by omega)
        omega
    have M0 := M 0 (by decide)
    have M1 := M 1 (by decide)
    simp only [Nat.add_zero] at M0
    rw [M0, M1]
    show (a ≤ t → _ = (if r = 0 then upd v.2.1 (j * 8 + t % 8) (v.2.1 (j * 8 + t % 8) + 1) else v.2.1) (r' * 8 + (t - a) % 8) ∧ _ = (if r = 0 then v.2.2.1 else upd v.2.2.1 (j * 8 + t % 8) (v.2.2.1 (j * 8 + t % 8) + 1)) (r' * 8 + (t - a) % 8)) ∧ _
    refine ⟨fun hat => ?_, fun hat => ?_⟩
    · obtain ⟨x1, x2⟩ := w1 hat
      have m8' : (t - a) % 8 < 8 := Nat.mod_lt _ (by decide)
      by_cases e : a = 0 ∧ r' = j
      · obtain ⟨ea, ej⟩ := e
        subst ea; subst ej
        rw [show t - 0 = t from rfl] at x1 x2 ⊢
        by_cases h0 : r = 0
        · rw [if_pos h0, if_pos h0, if_pos h0, if_pos ⟨rfl, rfl, rfl⟩, if_neg (fun g => absurd g.2.2 (by decide)), upd_eq, x1]
          exact ⟨rfl, x2⟩
        · rw [if_neg h0, if_neg h0, if_neg h0, if_neg (fun g => absurd g.2.2 (by decide)), if_pos ⟨rfl, rfl, rfl⟩, upd_eq, x2]
          exact ⟨x1, rfl⟩
      · have ne : r' * 8 + (t - a) % 8 ≠ j * 8 + t % 8 := by omega
        have ng : ∀ z : Nat, ¬ (a = 0 ∧ r' = j ∧ z = (if r = 0 then 0 else 1)) := fun z g => e ⟨g.1, g.2.1⟩
        rw [if_neg (ng 0), if_neg (ng 1)]
        by_cases h0 : r = 0
        · rw [if_pos h0, if_pos h0, upd_ne _ _ ne]; exact ⟨x1, x2⟩
        · rw [if_neg h0, if_neg h0, upd_ne _ _ ne]; exact ⟨x1, x2⟩
    · rw [if_neg (fun g => by omega), if_neg (fun g => by omega)]
      exact w2 hat
theorem C_tries {B : Nat} {v : StV} {d : MoV} (h : RS B v d.1) (hB : B < 2 ^ 29) (x y : Int32) : CORE (B + 240) (f_X8_faultOfAttempt v x y) (f_X8_attempt v x y) ["java/lang/IndexOutOfBoundsException"] (ok_X10_tries d x y) (f_X10_tries d x y) d := by
  obtain ⟨t, c, ht, hc, hc2, e1, e2, e3, e4, hD, hE, hP, hA⟩ := id h
  obtain ⟨np, p1, p2, p3, p4⟩ := id hP
  obtain ⟨nd, d1, d2, d3, d4⟩ := id hD
  unfold CORE f_X8_faultOfAttempt ok_X10_tries f_X10_tries
  rw [m_person hP, m_door hD]
  rcases h_pe v.2.2.2.2.1 p1 p2 x with e | ⟨e, i, hi, rfl⟩
  · simp only [e, eq_self, ite_true, m_thr1]
    exact ⟨trivial, Or.inl ⟨0, by decide, by decide, rfl, by decide, rfl⟩⟩
  · rcases h_do v.2.2.1 d1 d2 y with g | ⟨g, j, hj, rfl⟩
    · simp only [e, g, L10, eq_self, ite_true, ite_false, m_thr1]
      exact ⟨trivial, Or.inl ⟨0, by decide, by decide, rfl, by decide, rfl⟩⟩
    · have hi6 : i < 6 := by omega
      have hj8 : j < 8 := by omega
      obtain ⟨a1, a2, r, hr, a3⟩ := c_res (d := mo5 d 0) h (by omega) hi6 hj8
      obtain ⟨n, n1, n2, n3, hR⟩ := hA.record (B' := B + 240) (by omega) (by omega) (by omega) hi6 hj8 hr
      obtain ⟨T1, T2⟩ := tries_lp d (mo5 d 0) d.1 (nI i) (nI j) 28 120 d.1 (by decide) (by decide) (by decide) (fun q => by rw [if_neg (by omega)])
      rw [a3] at T1 T2
      obtain ⟨E1, E2⟩ := tries_end (mo5 d 0) d.1 hi6 hj8 hr n3
      rw [E1] at T1
      have T2 := T2 E2
      simp only [e, g, L10, eq_self, ite_true, ite_false, m_thr0]
      have T1 : lp_X10_tries_42 d (nI i) (nI j) (mo5 d 0) ((((120 : Int32)).toInt - ((94 : Int32)).toInt + 1).toNat + 1) 120 (mo5 d 0) = _ := T1
      have T2 : okl_lp_X10_tries_42 d (nI i) (nI j) (mo5 d 0) ((((120 : Int32)).toInt - ((94 : Int32)).toInt + 1).toNat + 1) 120 (mo5 d 0) := T2
      rw [T1]
      have ea : f_X8_attempt v (nI i) (nI j) = (nI r, (v.1, v.2.1, v.2.2.1, v.2.2.2.1, (v.2.2.2.2.1.1, v.2.2.2.2.1.2.1, (if r = 0 then upd v.2.2.2.2.1.2.2 i (v.2.2.2.2.1.2.2 i + 1) else v.2.2.2.2.1.2.2)), f_X0_record v.2.2.2.2.2 (nI i) (nI j) (nI (t / 24)) (nI r))) := by
        unfold f_X8_attempt
        rw [a1.trans a3, c_today e1 (by omega)]
        by_cases h0 : r = 0
        · subst h0
          rw [if_pos (show nI 0 = 0 from rfl), if_pos rfl]
          unfold f_X5_countEntry
          rw [n_inc _ hi6 (by decide)]
        · rw [if_neg (nI_ne0 (by omega) (by omega)), if_neg h0]
      rw [ea]
      refine ⟨⟨a2, T2⟩, Or.inr ⟨trivial, sTry d.1 i j r (min (n + 1) 10), rfl, ?_⟩⟩
      have hz := zr r
      have fr : ∀ q, (q < 5 ∨ 11 ≤ q ∧ q < 91) → q ≠ 43 + 2 * i + 1 → sTry d.1 i j r (min (n + 1) 10) q = d.1 q := fun q hq hq2 => sTry_fr _ (by omega) (by omega) (by omega) hq2 (by omega)
      refine ⟨t, c, by omega, hc, hc2, e1, ?_, e3, ?_, hD.congr (fun q hq => fr q (by omega) (by omega)), hE.congr (fun q hq => fr q (by omega) (by omega)), ?_, hR⟩
      · rw [fr 0 (by omega) (by omega)]; exact e2
      · rw [fr 1 (by omega) (by omega)]; exact e4
      · refine ⟨np, p1, p2, by rw [fr 3 (by omega) (by omega)]; exact p3, fun k hk => ?_⟩
        obtain ⟨a, en, ha, hen, x1, x2, x3, x4⟩ := p4 k hk
        by_cases ek : k = i
        · subst ek
          have v1 : sTry d.1 k j r (min (n + 1) 10) (43 + 2 * k + 1) = d.1 (43 + 2 * k + 1) + (if r = 0 then 1 else 0) := by
            unfold sTry
            rw [upd_eq]
          refine ⟨a, en + (if r = 0 then 1 else 0), ha, by split <;> omega, x1, ?_, by rw [fr _ (by omega) (by omega)]; exact x3, ?_⟩
          · show (if r = 0 then upd v.2.2.2.2.1.2.2 k (v.2.2.2.2.1.2.2 k + 1) else v.2.2.2.2.1.2.2) k = _
            by_cases h0 : r = 0
            · rw [if_pos h0, if_pos h0, upd_eq, x2, nI_1]
            · rw [if_neg h0, if_neg h0]; exact x2
          · rw [v1, x4]
            by_cases h0 : r = 0
            · rw [if_pos h0, if_pos h0, nI_1]
            · rw [if_neg h0, if_neg h0, Int32.add_zero]; rfl
        · refine ⟨a, en, ha, by omega, x1, ?_, by rw [fr _ (by omega) (by omega)]; exact x3, by rw [fr _ (by omega) (by omega)]; exact x4⟩
          show (if r = 0 then upd v.2.2.2.2.1.2.2 i _ else v.2.2.2.2.1.2.2) k = _
          by_cases h0 : r = 0
          · rw [if_pos h0, upd_ne _ _ ek]; exact x2
          · rw [if_neg h0]; exact x2
