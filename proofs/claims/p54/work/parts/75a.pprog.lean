/-! ===== tuples ===== -/
theorem z_c (e : MoV) (m : Nat → Int32) (K : Int32) (m' : Nat → Int32) (x' : Int32) : mo16 (mo13 (mo16 (mo13 e m) K) m') x' = mo16 (mo13 e m') x' := by
  obtain ⟨a0, a1, a2, a3, a4, a5, a6, a7, a8, a9, a10, a11, a12, a13, a14, a15, a16⟩ := e
  have h1 : mo16 (mo13 (mo16 (mo13 (a0, a1, a2, a3, a4, a5, a6, a7, a8, a9, a10, a11, a12, a13, a14, a15, a16) m) K) m') x' = (a0, a1, a2, a3, a4, a5, a6, a7, a8, a9, a10, a11, a12, m', a14, a15, x') := rfl
  have h2 : mo16 (mo13 (a0, a1, a2, a3, a4, a5, a6, a7, a8, a9, a10, a11, a12, a13, a14, a15, a16) m') x' = (a0, a1, a2, a3, a4, a5, a6, a7, a8, a9, a10, a11, a12, m', a14, a15, x') := rfl
  exact h1.trans h2.symm
theorem z_16b (e : MoV) (U : Nat → Int32) (K : Int32) : (mo16 (mo13 e U) K).2.2.2.2.2.2.2.2.2.2.2.2.2.2.2.2 = K := by
  obtain ⟨a0, a1, a2, a3, a4, a5, a6, a7, a8, a9, a10, a11, a12, a13, a14, a15, a16⟩ := e
  exact (rfl : _ = K)
theorem z_13c (e : MoV) (U : Nat → Int32) (K : Int32) : (mo16 (mo13 e U) K).2.2.2.2.2.2.2.2.2.2.2.2.2.1 = U := by
  obtain ⟨a0, a1, a2, a3, a4, a5, a6, a7, a8, a9, a10, a11, a12, a13, a14, a15, a16⟩ := e
  exact (rfl : _ = U)
theorem z_14e (e : MoV) (U : Nat → Int32) (K x : Int32) : (mo15 (mo16 (mo13 e U) K) x).2.2.2.2.2.2.2.2.2.2.2.2.2.2.1 = e.2.2.2.2.2.2.2.2.2.2.2.2.2.2.1 := by
  obtain ⟨a0, a1, a2, a3, a4, a5, a6, a7, a8, a9, a10, a11, a12, a13, a14, a15, a16⟩ := e
  exact (rfl : _ = a14)
theorem z_15e (e : MoV) (U : Nat → Int32) (K x : Int32) : (mo15 (mo16 (mo13 e U) K) x).2.2.2.2.2.2.2.2.2.2.2.2.2.2.2.1 = x := by
  obtain ⟨a0, a1, a2, a3, a4, a5, a6, a7, a8, a9, a10, a11, a12, a13, a14, a15, a16⟩ := e
  exact (rfl : _ = x)
theorem z_161316 (e : MoV) (K : Int32) (U : Nat → Int32) (x : Int32) : mo16 (mo13 (mo16 e K) U) x = mo16 (mo13 e U) x := by
  obtain ⟨a0, a1, a2, a3, a4, a5, a6, a7, a8, a9, a10, a11, a12, a13, a14, a15, a16⟩ := e
  have h1 : mo16 (mo13 (mo16 (a0, a1, a2, a3, a4, a5, a6, a7, a8, a9, a10, a11, a12, a13, a14, a15, a16) K) U) x = (a0, a1, a2, a3, a4, a5, a6, a7, a8, a9, a10, a11, a12, U, a14, a15, x) := rfl
  have h2 : mo16 (mo13 (a0, a1, a2, a3, a4, a5, a6, a7, a8, a9, a10, a11, a12, a13, a14, a15, a16) U) x = (a0, a1, a2, a3, a4, a5, a6, a7, a8, a9, a10, a11, a12, U, a14, a15, x) := rfl
  exact h1.trans h2.symm
theorem z_12d (e : MoV) (K : Int32) : (mo16 e K).2.2.2.2.2.2.2.2.2.2.2.2.1 = e.2.2.2.2.2.2.2.2.2.2.2.2.1 := by
  obtain ⟨a0, a1, a2, a3, a4, a5, a6, a7, a8, a9, a10, a11, a12, a13, a14, a15, a16⟩ := e
  exact (rfl : _ = a12)
theorem z_14d (e : MoV) (K : Int32) : (mo16 e K).2.2.2.2.2.2.2.2.2.2.2.2.2.2.1 = e.2.2.2.2.2.2.2.2.2.2.2.2.2.2.1 := by
  obtain ⟨a0, a1, a2, a3, a4, a5, a6, a7, a8, a9, a10, a11, a12, a13, a14, a15, a16⟩ := e
  exact (rfl : _ = a14)
theorem z_16d (e : MoV) (K : Int32) : (mo16 e K).2.2.2.2.2.2.2.2.2.2.2.2.2.2.2.2 = K := by
  obtain ⟨a0, a1, a2, a3, a4, a5, a6, a7, a8, a9, a10, a11, a12, a13, a14, a15, a16⟩ := e
  exact (rfl : _ = K)
/-! ===== the two loops, step by step ===== -/
theorem ip_0 (d : MoV) (u3 : Int32 × MoV) (n : Nat) (e : MoV) : lp_X10_isProgram_15 d u3 (n + 1) 0 e = (0, e) ∧ okl_lp_X10_isProgram_15 d u3 (n + 1) 0 e := by
  simp only [lp_X10_isProgram_15, okl_lp_X10_isProgram_15, ite_true, and_self]
theorem ip_end (d : MoV) (u3 : Int32 × MoV) (n : Nat) {e e1 : MoV} (hs : f_X10_isSign e 59 = (0, e1)) (ho : ok_X10_isSign e 59) (h : e1.2.2.2.2.2.2.2.2.2.2.2.2.2.2.2.1 = e1.2.2.2.2.2.2.2.2.2.2.2.2.2.2.1) : lp_X10_isProgram_15 d u3 (n + 1) 1 e = (1, e1) ∧ okl_lp_X10_isProgram_15 d u3 (n + 1) 1 e := by
  have y0 : ((1 : Int32) = 0) = False := eq_false (by decide)
  simp only [lp_X10_isProgram_15, okl_lp_X10_isProgram_15, y0, ite_false, ite_true, hs]
  exact ⟨if_pos h, ho, trivial⟩
theorem ip_bad (d : MoV) (u3 : Int32 × MoV) (n : Nat) {e e1 : MoV} (hs : f_X10_isSign e 59 = (0, e1)) (ho : ok_X10_isSign e 59) (h : ¬ e1.2.2.2.2.2.2.2.2.2.2.2.2.2.2.2.1 = e1.2.2.2.2.2.2.2.2.2.2.2.2.2.2.1) : lp_X10_isProgram_15 d u3 (n + 1) 1 e = (0, e1) ∧ okl_lp_X10_isProgram_15 d u3 (n + 1) 1 e := by
  have y0 : ((1 : Int32) = 0) = False := eq_false (by decide)
  simp only [lp_X10_isProgram_15, okl_lp_X10_isProgram_15, y0, ite_false, ite_true, hs]
  exact ⟨if_neg h, ho, trivial⟩
theorem ip_next (d : MoV) (u3 : Int32 × MoV) (n : Nat) {e e1 : MoV} (hs : f_X10_isSign e 59 = (1, e1)) (ho : ok_X10_isSign e 59) (hc : ok_X10_readsCommand e1) (hn : okl_lp_X10_isProgram_15 d u3 n (f_X10_readsCommand e1).1 (f_X10_readsCommand e1).2) : lp_X10_isProgram_15 d u3 (n + 1) 1 e = lp_X10_isProgram_15 d u3 n (f_X10_readsCommand e1).1 (f_X10_readsCommand e1).2 ∧ okl_lp_X10_isProgram_15 d u3 (n + 1) 1 e := by
  have y0 : ((1 : Int32) = 0) = False := eq_false (by decide)
  simp only [lp_X10_isProgram_15, okl_lp_X10_isProgram_15, y0, ite_false, hs]
  exact ⟨trivial, ho, hc, hn⟩
theorem cc_bad (q : PrV) (sb : SbV) (u2 : PrV) (n : Nat) {x1 : Int32} {qL q' : PrV} (hx : ¬ (60 : Int32) < x1) (hc : f_X6_readCommand qL sb = (0, q')) (ho : ok_X6_readCommand qL sb) : lp_X6_countCommands_6 q sb u2 (n + 1) x1 qL = (-1, q') ∧ okl_lp_X6_countCommands_6 q sb u2 (n + 1) x1 qL := by
  simp only [lp_X6_countCommands_6, okl_lp_X6_countCommands_6, if_neg hx, hc, ite_true]
  exact ⟨trivial, ho, trivial⟩
theorem cc_end (q : PrV) (sb : SbV) (u2 : PrV) (n : Nat) {x1 : Int32} {qL q' : PrV} (hx : ¬ (60 : Int32) < x1) (hc : f_X6_readCommand qL sb = (1, q')) (ho : ok_X6_readCommand qL sb) (h : q'.1 = f_J4_length_8abf5 sb) : lp_X6_countCommands_6 q sb u2 (n + 1) x1 qL = (x1, q') ∧ okl_lp_X6_countCommands_6 q sb u2 (n + 1) x1 qL := by
  have y0 : ((1 : Int32) = 0) = False := eq_false (by decide)
  simp only [lp_X6_countCommands_6, okl_lp_X6_countCommands_6, if_neg hx, hc, y0, ite_false, if_pos h]
  exact ⟨trivial, ho, trivial⟩
theorem cc_stop (q : PrV) (sb : SbV) (u2 : PrV) (n : Nat) {x1 : Int32} {qL q' q2 : PrV} (hx : ¬ (60 : Int32) < x1) (hc : f_X6_readCommand qL sb = (1, q')) (ho : ok_X6_readCommand qL sb) (h : ¬ q'.1 = f_J4_length_8abf5 sb) (hs : f_X6_readSign q' sb 59 = (0, q2)) (h2 : ok_X6_readSign q' sb 59) : lp_X6_countCommands_6 q sb u2 (n + 1) x1 qL = (-1, q2) ∧ okl_lp_X6_countCommands_6 q sb u2 (n + 1) x1 qL := by
  have y0 : ((1 : Int32) = 0) = False := eq_false (by decide)
  simp only [lp_X6_countCommands_6, okl_lp_X6_countCommands_6, if_neg hx, hc, y0, ite_false, if_neg h, hs, ite_true]
  exact ⟨trivial, ho, h2, trivial⟩
theorem cc_next (q : PrV) (sb : SbV) (u2 : PrV) (n : Nat) {x1 : Int32} {qL q' q2 : PrV} (hx : ¬ (60 : Int32) < x1) (hc : f_X6_readCommand qL sb = (1, q')) (ho : ok_X6_readCommand qL sb) (h : ¬ q'.1 = f_J4_length_8abf5 sb) (hs : f_X6_readSign q' sb 59 = (1, q2)) (h2 : ok_X6_readSign q' sb 59) (hn : okl_lp_X6_countCommands_6 q sb u2 n (x1 + 1) q2) : lp_X6_countCommands_6 q sb u2 (n + 1) x1 qL = lp_X6_countCommands_6 q sb u2 n (x1 + 1) q2 ∧ okl_lp_X6_countCommands_6 q sb u2 (n + 1) x1 qL := by
  have y0 : ((1 : Int32) = 0) = False := eq_false (by decide)
  simp only [lp_X6_countCommands_6, okl_lp_X6_countCommands_6, if_neg hx, hc, y0, ite_false, if_neg h, hs]
  exact ⟨trivial, ho, h2, hn⟩
/-! ===== reading the whole program ===== -/
def pgood (l : List Nat) (m : Nat → Int32) (i : Nat) : Prop := (pcm (fun i => l.getD i 0) (pps (fun i => l.getD i 0) i)).1 = true ∧ prow m i (pcm (fun i => l.getD i 0) (pps (fun i => l.getD i 0) i))
theorem prow_congr {m m' : Nat → Int32} {k : Nat} {c : Bool × Nat × Nat × Nat × Nat} (h : prow m k c) (hm : ∀ i, i < 3 * (k + 1) → m' i = m i) : prow m' k c := ⟨(hm _ (by omega)).trans h.1, (hm _ (by omega)).trans h.2.1, fun w => (hm _ (by omega)).trans (h.2.2 w)⟩
set_option maxHeartbeats 4000000 in
set_option linter.constructorNameAsVariable false in
theorem P_count_lp {l : List Nat} {sb : SbV} (hT : TX sb l) (hl : l.length ≤ 60) (q u2 : PrV) (d : MoV) (u3 : Int32 × MoV) : ∀ (n k : Nat) (r : Int32 × Int32 × Int32) (e : MoV) (X : Int32 × MoV), MX e.2.2.2.2.2.2.2.2.2.2.2.2.1 e.2.2.2.2.2.2.2.2.2.2.2.2.2.2.1 l → e.2.2.2.2.2.2.2.2.2.2.2.2.2.2.2.2 = nI k → pps (fun i => l.getD i 0) k ≤ 60 → 2 * k ≤ pps (fun i => l.getD i 0) k → 31 < n + k →
    (∀ i, i < k → pgood l e.2.2.2.2.2.2.2.2.2.2.2.2.2.1 i ∧ l.getD (pcm (fun i => l.getD i 0) (pps (fun i => l.getD i 0) i)).2.2.2.2 0 = 59) → f_X10_readsCommand (mo15 e (nI (pps (fun i => l.getD i 0) k))) = X →
    okl_lp_X6_countCommands_6 q sb u2 n (nI (k + 1)) (nI (pps (fun i => l.getD i 0) k), r) ∧ ok_X10_readsCommand (mo15 e (nI (pps (fun i => l.getD i 0) k))) ∧ okl_lp_X10_isProgram_15 d u3 (n + 1) X.1 X.2 ∧
    ∃ (pg : PrV) (m : Nat → Int32) (x : Int32) (E : Nat),
      (lp_X6_countCommands_6 q sb u2 n (nI (k + 1)) (nI (pps (fun i => l.getD i 0) k), r) = (-1, pg) ∧ pg.1 = nI E ∧ E < 100 ∧ lp_X10_isProgram_15 d u3 (n + 1) X.1 X.2 = (0, mo15 (mo16 (mo13 e m) x) (nI E))) ∨
      (∃ N, N ≤ 30 ∧ 0 < N ∧ lp_X6_countCommands_6 q sb u2 n (nI (k + 1)) (nI (pps (fun i => l.getD i 0) k), r) = (nI N, pg) ∧ lp_X10_isProgram_15 d u3 (n + 1) X.1 X.2 = (1, mo15 (mo16 (mo13 e m) (nI N)) (nI E)) ∧
        ∀ i, i < N → pgood l m i ∧ (i + 1 < N → l.getD (pcm (fun i => l.getD i 0) (pps (fun i => l.getD i 0) i)).2.2.2.2 0 = 59)) := by
  have hch := hT.2.2.2.2.2
  intro n
  induction n with
  | zero => intro k r e X _ _ h1 h2 h3; omega
  | succ n ih =>
    intro k r e X hM he h1 h2 h3 hg hX
    obtain ⟨c1, c2, c3⟩ := pcm_pos (fun i => l.getD i 0) (pps (fun i => l.getD i 0) k)
    obtain ⟨⟨q', x1, x2, x3⟩, x4⟩ := x_cmd hT r (p := pps (fun i => l.getD i 0) k) (by omega)
    obtain ⟨⟨m, x, y1, y2, y3⟩, y4⟩ := y_cmd hM hl hch (p := pps (fun i => l.getD i 0) k) (k := k) (by omega) he (fun _ => by omega)
    have ek : ¬ (60 : Int32) < nI (k + 1) := nI_nlt (a := 60) (by omega) (by omega)
    have hX := hX.symm.trans y1
    subst hX
    generalize hC : pcm (fun i => l.getD i 0) (pps (fun i => l.getD i 0) k) = C at c1 c2 c3 x1 x2 x3 y3 ⊢
    obtain ⟨b, k1, a1, a2, E⟩ := C
    have c1 : pps (fun i => l.getD i 0) k ≤ E := c1
    have c2 : E ≤ pps (fun i => l.getD i 0) k + 10 := c2
    by_cases f : b = true
    · subst f
      obtain ⟨z1, z2⟩ := y3 rfl
      obtain ⟨f1, f2, f3⟩ := c3 rfl
      have x3 := x3 rfl
      have f1 : k1 < 8 := f1
      have f3 : pps (fun i => l.getD i 0) k < E := f3
      have hps : pps (fun i => l.getD i 0) (k + 1) = E + 1 := by
        show (pcm (fun i => l.getD i 0) (pps (fun i => l.getD i 0) k)).2.2.2.2 + 1 = E + 1
        rw [hC]
      have hpl : pps (fun i => l.getD i 0) k < l.length := by
        apply Decidable.byContradiction
        intro w
        exact f2 (pg_out (by omega))
      subst x3
      subst z1
      obtain ⟨s1, s2⟩ := y_is (e := mo16 (mo13 e m) (nI (k + 1))) (hM_b hM _ _) hl hch (p := E) (c := 59) (by omega) (by decide) (by decide)
      obtain ⟨t1, t2⟩ := x_rs hT (nI k1, nI a1, nI a2) (p := E) (c := 59) (by omega) (by decide)
      rw [← q_59] at s1 s2 t1 t2
      have hgood : ∀ i, i < k + 1 → pgood l m i ∧ (i < k → l.getD (pcm (fun i => l.getD i 0) (pps (fun i => l.getD i 0) i)).2.2.2.2 0 = 59) := fun i hi => by
        by_cases w : i = k
        · subst w; exact ⟨⟨by rw [hC], by rw [hC]; exact z2⟩, fun w => absurd w (Nat.lt_irrefl _)⟩
        · obtain ⟨g1, g2⟩ := hg i (by omega)
          exact ⟨⟨g1.1, prow_congr g1.2 (fun j hj => y2 j (by omega))⟩, fun _ => g2⟩
      have x1 : f_X6_readCommand (nI (pps (fun i => l.getD i 0) k), r) sb = (1, nI E, nI k1, nI a1, nI a2) := x1
      have hlen : f_J4_length_8abf5 sb = nI l.length := tx_len hT
      show _ ∧ _ ∧ okl_lp_X10_isProgram_15 d u3 (n + 1 + 1) 1 (mo15 (mo16 (mo13 e m) (nI (k + 1))) (nI E)) ∧ ∃ (pg : PrV) (m' : Nat → Int32) (x' : Int32) (E' : Nat),
        (_ ∧ _ ∧ _ ∧ lp_X10_isProgram_15 d u3 (n + 1 + 1) 1 (mo15 (mo16 (mo13 e m) (nI (k + 1))) (nI E)) = _) ∨ (∃ N, _ ∧ _ ∧ _ ∧ lp_X10_isProgram_15 d u3 (n + 1 + 1) 1 (mo15 (mo16 (mo13 e m) (nI (k + 1))) (nI E)) = _ ∧ _)
      by_cases f4 : E = l.length
      · have n59 : ¬ l.getD E 0 = 59 := by rw [f4, pg_out (Nat.le_refl _)]; decide
        rw [if_neg n59] at s1
        obtain ⟨p1, p2⟩ := ip_end d u3 (n + 1) s1 s2 (by rw [z_14e e m (nI (k + 1)) (nI E), z_15e e m (nI (k + 1)) (nI E), hM.1, f4])
        obtain ⟨g1, g2⟩ := cc_end q sb u2 n ek x1 x4 (by show nI E = _; rw [hlen, f4])
        exact ⟨g2, y4, p2, _, m, nI (k + 1), E, Or.inr ⟨k + 1, by omega, by omega, g1, p1, fun i hi => ⟨(hgood i hi).1, fun w => (hgood i hi).2 (by omega)⟩⟩⟩
      · have nL : ¬ nI E = nI l.length := fun w => f4 ((nI_eq (by omega) (by omega)).mp w)
        by_cases f5 : l.getD E 0 = 59
        · have hlt : E < l.length := by
            apply Decidable.byContradiction
            intro w
            rw [pg_out (by omega)] at f5
            exact absurd f5 (by decide)
          rw [if_pos f5] at s1 t1
          obtain ⟨i1, i2, i3, pg, m', x', E', i4⟩ := ih (k + 1) (nI k1, nI a1, nI a2) (mo16 (mo13 e m) (nI (k + 1))) _ (hM_b hM _ _) (z_16b e m _) (by rw [hps]; omega) (by rw [hps]; omega) (by omega) (fun i hi => ⟨by rw [z_13c e m (nI (k + 1))]; exact (hgood i hi).1, by
            by_cases w : i = k
            · subst w; rw [hC]; exact f5
            · exact (hgood i hi).2 (by omega)⟩) rfl
          rw [hps] at i1 i2 i3 i4
          obtain ⟨p1, p2⟩ := ip_next d u3 (n + 1) s1 s2 i2 i3
          obtain ⟨g1, g2⟩ := cc_next q sb u2 n ek x1 x4 (by show ¬ nI E = _; rw [hlen]; exact nL) t1 t2 (by rw [nI_1]; exact i1)
          rw [nI_1] at g1
          refine ⟨g2, y4, p2, pg, m', x', E', ?_⟩
          rcases i4 with ⟨j1, j2, j3, j4⟩ | ⟨N, n1, n2, n3, n4, n5⟩
          · rw [z_c e m (nI (k + 1)) m' x'] at j4
            exact Or.inl ⟨g1.trans j1, j2, j3, p1.trans j4⟩
          · rw [z_c e m (nI (k + 1)) m' (nI N)] at n4
            exact Or.inr ⟨N, n1, n2, g1.trans n3, p1.trans n4, n5⟩
        · rw [if_neg f5] at s1 t1
          obtain ⟨p1, p2⟩ := ip_bad d u3 (n + 1) s1 s2 (by rw [z_14e e m (nI (k + 1)) (nI E), z_15e e m (nI (k + 1)) (nI E), hM.1]; exact nL)
          obtain ⟨g1, g2⟩ := cc_stop q sb u2 n ek x1 x4 (by show ¬ nI E = _; rw [hlen]; exact nL) t1 t2
          exact ⟨g2, y4, p2, _, m, nI (k + 1), E, Or.inl ⟨g1, rfl, by omega, p1⟩⟩
    · have f : b = false := Bool.eq_false_iff.mpr f
      subst f
      have x1 : f_X6_readCommand (nI (pps (fun i => l.getD i 0) k), r) sb = (0, q') := x1
      obtain ⟨g1, g2⟩ := cc_bad q sb u2 n ek x1 x4
      obtain ⟨p1, p2⟩ := ip_0 d u3 (n + 1) (mo15 (mo16 (mo13 e m) x) (nI E))
      exact ⟨g2, y4, p2, q', m, x, E, Or.inl ⟨g1, x2, by omega, p1⟩⟩
set_option maxHeartbeats 4000000 in
set_option linter.constructorNameAsVariable false in
theorem P_prog {l : List Nat} {sb : SbV} (hT : TX sb l) (hl : l.length ≤ 60) (q : PrV) (d : MoV) (hM : MX d.2.2.2.2.2.2.2.2.2.2.2.2.1 d.2.2.2.2.2.2.2.2.2.2.2.2.2.2.1 l) : ok_X6_countCommands q sb ∧ ok_X10_isProgram d ∧ ∃ (pg : PrV) (m : Nat → Int32) (x : Int32) (E : Nat),
    (f_X6_countCommands q sb = (-1, pg) ∧ pg.1 = nI E ∧ E < 100 ∧ f_X10_isProgram d = (0, mo15 (mo16 (mo13 d m) x) (nI E))) ∨
    (∃ N, N ≤ 30 ∧ 0 < N ∧ f_X6_countCommands q sb = (nI N, pg) ∧ f_X10_isProgram d = (1, mo15 (mo16 (mo13 d m) (nI N)) (nI E)) ∧ ∀ i, i < N → pgood l m i ∧ (i + 1 < N → l.getD (pcm (fun i => l.getD i 0) (pps (fun i => l.getD i 0) i)).2.2.2.2 0 = 59)) := by
  have hr : f_X6_rewind q sb = (nI 0, q.2) := rfl
  generalize hX : f_X10_readsCommand (mo16 (mo15 d 0) 0) = X
  have hX2 : f_X10_readsCommand (mo15 (mo16 d 0) (nI (pps (fun i => l.getD i 0) 0))) = X := by
    rw [← hX, z_1615 d 0 0]
    rfl
  obtain ⟨i1, i2, i3, pg, m, x, E, i4⟩ := P_count_lp hT hl q (nI 0, q.2) d X 61 0 q.2 (mo16 d 0) X (by rw [z_12d d 0, z_14d d 0]; exact hM) (z_16d d 0) (Nat.zero_le 60) (Nat.le_refl 0) (by decide) (fun i hi => absurd hi (Nat.not_lt_zero i)) hX2
  have i1 : okl_lp_X6_countCommands_6 q sb (nI 0, q.2) 61 (nI 1) (nI 0, q.2) := i1
  have i2 : ok_X10_readsCommand (mo15 (mo16 d 0) 0) := i2
  have i3 : okl_lp_X10_isProgram_15 d X 62 X.1 X.2 := i3
  have hok9 : ok_X6_countCommands q sb := by
    unfold ok_X6_countCommands
    rw [hr, q_1]
    exact i1
  have hf9 : f_X6_countCommands q sb = lp_X6_countCommands_6 q sb (nI 0, q.2) 61 (nI 1) (nI 0, q.2) := by
    unfold f_X6_countCommands
    rw [hr, q_1]
  have hok10 : ok_X10_isProgram d := by
    unfold ok_X10_isProgram
    rw [hX]
    refine ⟨?_, i3⟩
    rw [z_1615 d 0 0]
    exact i2
  have hf10 : f_X10_isProgram d = lp_X10_isProgram_15 d X 62 X.1 X.2 := by
    unfold f_X10_isProgram
    rw [hX]
  refine ⟨hok9, hok10, pg, m, x, E, ?_⟩
  rw [hf9, hf10]
  rcases i4 with ⟨j1, j2, j3, j4⟩ | ⟨N, n1, n2, n3, n4, n5⟩
  · rw [z_161316 d 0 m x] at j4
    exact Or.inl ⟨j1, j2, j3, j4⟩
  · rw [z_161316 d 0 m (nI N)] at n4
    exact Or.inr ⟨N, n1, n2, n3, n4, n5⟩
