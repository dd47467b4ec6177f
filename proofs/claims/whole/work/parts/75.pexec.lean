/-! ===== reading the whole program ===== -/
def pgood (l : List Nat) (m : Nat → Int32) (i : Nat) : Prop := (pcm (fun i => l.getD i 0) (pps (fun i => l.getD i 0) i)).1 = true ∧ prow m i (pcm (fun i => l.getD i 0) (pps (fun i => l.getD i 0) i))
theorem prow_congr {m m' : Nat → Int32} {k : Nat} {c : Bool × Nat × Nat × Nat × Nat} (h : prow m k c) (hm : ∀ i, i < 3 * (k + 1) → m' i = m i) : prow m' k c := ⟨(hm _ (by omega)).trans h.1, (hm _ (by omega)).trans h.2.1, fun w => (hm _ (by omega)).trans (h.2.2 w)⟩
theorem P_count_lp {l : List Nat} {sb : SbV} (hT : TX sb l) (hl : l.length ≤ 60) (q u2 : PrV) (d : MoV) (u3 : Int32 × MoV) : ∀ (n k : Nat) (r : Int32 × Int32 × Int32) (e : MoV), MX e.2.2.2.2.2.2.2.2.2.2.2.2.1 e.2.2.2.2.2.2.2.2.2.2.2.2.2.2.1 l → e.2.2.2.2.2.2.2.2.2.2.2.2.2.2.2.2 = nI k → pps (fun i => l.getD i 0) k ≤ 60 → 2 * k ≤ pps (fun i => l.getD i 0) k → 31 < n + k →
    (∀ i, i < k → pgood l e.2.2.2.2.2.2.2.2.2.2.2.2.2.1 i ∧ l.getD (pcm (fun i => l.getD i 0) (pps (fun i => l.getD i 0) i)).2.2.2.2 0 = 59) →
    okl_lp_X6_countCommands_6 q sb u2 n (nI (k + 1)) (nI (pps (fun i => l.getD i 0) k), r) ∧ ok_X10_readsCommand (mo15 e (nI (pps (fun i => l.getD i 0) k))) ∧ okl_lp_X10_isProgram_15 d u3 (n + 1) (f_X10_readsCommand (mo15 e (nI (pps (fun i => l.getD i 0) k)))).1 (f_X10_readsCommand (mo15 e (nI (pps (fun i => l.getD i 0) k)))).2 ∧
    ∃ (pg : PrV) (m : Nat → Int32) (x : Int32) (E : Nat),
      (lp_X6_countCommands_6 q sb u2 n (nI (k + 1)) (nI (pps (fun i => l.getD i 0) k), r) = (-1, pg) ∧ pg.1 = nI E ∧ E < 100 ∧ lp_X10_isProgram_15 d u3 (n + 1) (f_X10_readsCommand (mo15 e (nI (pps (fun i => l.getD i 0) k)))).1 (f_X10_readsCommand (mo15 e (nI (pps (fun i => l.getD i 0) k)))).2 = (0, mo15 (mo16 (mo13 e m) x) (nI E))) ∨
      (∃ N, N ≤ 30 ∧ 0 < N ∧ lp_X6_countCommands_6 q sb u2 n (nI (k + 1)) (nI (pps (fun i => l.getD i 0) k), r) = (nI N, pg) ∧ lp_X10_isProgram_15 d u3 (n + 1) (f_X10_readsCommand (mo15 e (nI (pps (fun i => l.getD i 0) k)))).1 (f_X10_readsCommand (mo15 e (nI (pps (fun i => l.getD i 0) k)))).2 = (1, mo15 (mo16 (mo13 e m) (nI N)) (nI E)) ∧
        ∀ i, i < N → pgood l m i ∧ (i + 1 < N → l.getD (pcm (fun i => l.getD i 0) (pps (fun i => l.getD i 0) i)).2.2.2.2 0 = 59)) := by
  have hch := hT.2.2.2.2.2
  have y0 : ((1 : Int32) = 0) = False := eq_false (by decide)
  intro n
  induction n with
  | zero => intro k r e _ _ h1 h2 h3; omega
  | succ n ih =>
    intro k r e hM he h1 h2 h3 hg
    obtain ⟨c1, c2, c3⟩ := pcm_pos (fun i => l.getD i 0) (pps (fun i => l.getD i 0) k)
    obtain ⟨⟨q', x1, x2, x3⟩, x4⟩ := x_cmd hT r (p := pps (fun i => l.getD i 0) k) (by omega)
    obtain ⟨⟨m, x, y1, y2, y3⟩, y4⟩ := y_cmd hM hl hch (p := pps (fun i => l.getD i 0) k) (k := k) (by omega) he (fun _ => by omega)
    have ek : ((60 : Int32) < nI (k + 1)) = False := eq_false (nI_nlt (a := 60) (by omega) (by omega))
    rw [y1]
    simp only [lp_X6_countCommands_6, okl_lp_X6_countCommands_6, lp_X10_isProgram_15, okl_lp_X10_isProgram_15, ek, ite_false, x1]
    by_cases f : (pcm (fun i => l.getD i 0) (pps (fun i => l.getD i 0) k)).1 = true
    · obtain ⟨z1, z2⟩ := y3 f
      obtain ⟨f1, f2, f3⟩ := c3 f
      have hpl : pps (fun i => l.getD i 0) k < l.length := by
        apply Decidable.byContradiction
        intro w
        exact f2 (pg_out (by omega))
      have x3 := x3 f
      simp only [if_pos f, y0, ite_false]
      subst x3
      subst z1
      obtain ⟨s1, s2⟩ := y_is (e := mo16 (mo13 e m) (nI (k + 1))) hM hl hch (p := (pcm (fun i => l.getD i 0) (pps (fun i => l.getD i 0) k)).2.2.2.2) (c := 59) (by omega) (by decide) (by decide)
      obtain ⟨t1, t2⟩ := x_rs hT (nI (pcm (fun i => l.getD i 0) (pps (fun i => l.getD i 0) k)).2.1, nI (pcm (fun i => l.getD i 0) (pps (fun i => l.getD i 0) k)).2.2.1, nI (pcm (fun i => l.getD i 0) (pps (fun i => l.getD i 0) k)).2.2.2.1) (p := (pcm (fun i => l.getD i 0) (pps (fun i => l.getD i 0) k)).2.2.2.2) (c := 59) (by omega) (by decide)
      have hgood : ∀ i, i < k + 1 → pgood l m i ∧ (i < k → l.getD (pcm (fun i => l.getD i 0) (pps (fun i => l.getD i 0) i)).2.2.2.2 0 = 59) := fun i hi => by
        by_cases w : i = k
        · subst w; exact ⟨⟨f, z2⟩, fun w => absurd w (Nat.lt_irrefl _)⟩
        · obtain ⟨g1, g2⟩ := hg i (by omega)
          exact ⟨⟨g1.1, prow_congr g1.2 (fun j hj => y2 j (by omega))⟩, fun _ => g2⟩
      rw [tx_len hT, q_59, s1, t1]
      by_cases f4 : (pcm (fun i => l.getD i 0) (pps (fun i => l.getD i 0) k)).2.2.2.2 = l.length
      · have n59 : ¬ l.getD (pcm (fun i => l.getD i 0) (pps (fun i => l.getD i 0) k)).2.2.2.2 0 = 59 := by rw [f4, pg_out (Nat.le_refl _)]; decide
        have e14 : nI (pcm (fun i => l.getD i 0) (pps (fun i => l.getD i 0) k)).2.2.2.2 = e.2.2.2.2.2.2.2.2.2.2.2.2.2.2.1 := by rw [f4]; exact hM.1.symm
        have eL : (nI (pcm (fun i => l.getD i 0) (pps (fun i => l.getD i 0) k)).2.2.2.2 = nI l.length) = True := eq_true (by rw [f4])
        simp only [if_neg n59, ite_true, eL]
        refine ⟨x4, y4, ⟨s2, trivial⟩, _, m, nI (k + 1), (pcm (fun i => l.getD i 0) (pps (fun i => l.getD i 0) k)).2.2.2.2, Or.inr ⟨k + 1, by omega, by omega, rfl, ?_, fun i hi => ⟨(hgood i hi).1, fun w => (hgood i hi).2 (by omega)⟩⟩⟩
        exact if_pos e14
      · have nL : ¬ nI (pcm (fun i => l.getD i 0) (pps (fun i => l.getD i 0) k)).2.2.2.2 = nI l.length := fun w => f4 ((nI_eq (by omega) (by omega)).mp w)
        have n14 : ¬ nI (pcm (fun i => l.getD i 0) (pps (fun i => l.getD i 0) k)).2.2.2.2 = e.2.2.2.2.2.2.2.2.2.2.2.2.2.2.1 := by rw [hM.1]; exact nL
        by_cases f5 : l.getD (pcm (fun i => l.getD i 0) (pps (fun i => l.getD i 0) k)).2.2.2.2 0 = 59
        · have hlt : (pcm (fun i => l.getD i 0) (pps (fun i => l.getD i 0) k)).2.2.2.2 < l.length := by
            apply Decidable.byContradiction
            intro w
            rw [pg_out (by omega)] at f5
            exact absurd f5 (by decide)
          obtain ⟨i1, i2, i3, pg, m', x', E, i4⟩ := ih (k + 1) (nI (pcm (fun i => l.getD i 0) (pps (fun i => l.getD i 0) k)).2.1, nI (pcm (fun i => l.getD i 0) (pps (fun i => l.getD i 0) k)).2.2.1, nI (pcm (fun i => l.getD i 0) (pps (fun i => l.getD i 0) k)).2.2.2.1) (mo16 (mo13 e m) (nI (k + 1))) hM rfl (by show (pcm (fun i => l.getD i 0) (pps (fun i => l.getD i 0) k)).2.2.2.2 + 1 ≤ 60; omega) (by show 2 * (k + 1) ≤ (pcm (fun i => l.getD i 0) (pps (fun i => l.getD i 0) k)).2.2.2.2 + 1; omega) (by omega) (fun i hi => ⟨(hgood i hi).1, by
            by_cases w : i = k
            · subst w; exact f5
            · exact (hgood i hi).2 (by omega)⟩)
          simp only [if_pos f5, nL, y0, ite_false, nI_1]
          refine ⟨⟨x4, t2, i1⟩, y4, ⟨s2, i2, i3⟩, pg, m', x', E, ?_⟩
          exact i4
        · simp only [if_neg f5, nL, ite_true, ite_false]
          refine ⟨⟨x4, t2, trivial⟩, y4, ⟨s2, trivial⟩, _, m, nI (k + 1), (pcm (fun i => l.getD i 0) (pps (fun i => l.getD i 0) k)).2.2.2.2, Or.inl ⟨rfl, rfl, by omega, ?_⟩⟩
          exact if_neg n14
    · simp only [if_neg f, ite_true]
      exact ⟨⟨x4, trivial⟩, y4, trivial, q', m, x, _, Or.inl ⟨rfl, x2, by omega, rfl⟩⟩
theorem P_prog {l : List Nat} {sb : SbV} (hT : TX sb l) (hl : l.length ≤ 60) (q : PrV) (d : MoV) (hM : MX d.2.2.2.2.2.2.2.2.2.2.2.2.1 d.2.2.2.2.2.2.2.2.2.2.2.2.2.2.1 l) : ok_X6_countCommands q sb ∧ ok_X10_isProgram d ∧ ∃ (pg : PrV) (m : Nat → Int32) (x : Int32) (E : Nat),
    (f_X6_countCommands q sb = (-1, pg) ∧ pg.1 = nI E ∧ E < 100 ∧ f_X10_isProgram d = (0, mo15 (mo16 (mo13 d m) x) (nI E))) ∨
    (∃ N, N ≤ 30 ∧ 0 < N ∧ f_X6_countCommands q sb = (nI N, pg) ∧ f_X10_isProgram d = (1, mo15 (mo16 (mo13 d m) (nI N)) (nI E)) ∧ ∀ i, i < N → pgood l m i ∧ (i + 1 < N → l.getD (pcm (fun i => l.getD i 0) (pps (fun i => l.getD i 0) i)).2.2.2.2 0 = 59)) := by
  obtain ⟨i1, i2, i3, pg, m, x, E, i4⟩ := P_count_lp hT hl q (f_X6_rewind q sb) d (f_X10_readsCommand (mo16 (mo15 d 0) 0)) 61 0 q.2 (mo16 d 0) hM rfl (by decide) (by decide) (by decide) (fun i hi => absurd hi (Nat.not_lt_zero i))
  exact ⟨i1, ⟨i2, i3⟩, pg, m, x, E, i4⟩
/-! ===== carrying out one command ===== -/
theorem core_out {B F : Nat} {A : Int32 × StV} {xs : List String} {O : Prop} {R : Int32 × MoV} {d : MoV} (h : CORE B F A xs O R d) {B' : Nat} (hB : B ≤ B') : O ∧ ((F ≠ 0 ∧ ∃ th : Int32, th ≠ 0 ∧ R = (0, mo5 d th)) ∨ F = 0 ∧ ∃ (s' : Nat → Int32) (t : Int32), R = (t, mo5 (mo0 d s') 0) ∧ RS B' A.2 s') := by
  obtain ⟨o, h⟩ := h
  refine ⟨o, ?_⟩
  rcases h with ⟨k, h1, h2, h3, h4, h5⟩ | ⟨h1, s', h2, h3⟩
  · exact Or.inl ⟨h2, nI (k + 1), nI_ne0 (by omega) (by omega), h5⟩
  · exact Or.inr ⟨h1, s', A.1, h2, h3.mono hB⟩
theorem P_does {B : Nat} {v : StV} {d : MoV} (h : RS B v d.1) (hB : B < 2 ^ 29) {i : Nat} (hi : i ≤ 29) {c : Bool × Nat × Nat × Nat × Nat} (hr : prow d.2.2.2.2.2.2.2.2.2.2.2.2.2.1 i c) (hv : c.2.1 < 8) (q : McV) : ok_X10_does d (3 * nI i) ∧
    ((f_X9_faultOfCommand q v (nI c.2.1) (nI c.2.2.1) (nI c.2.2.2.1) ≠ 0 ∧ ∃ th : Int32, th ≠ 0 ∧ f_X10_does d (3 * nI i) = (0, mo5 d th)) ∨
     (f_X9_faultOfCommand q v (nI c.2.1) (nI c.2.2.1) (nI c.2.2.2.1) = 0 ∧ ∃ (s' : Nat → Int32) (t : Int32), f_X10_does d (3 * nI i) = (t, mo5 (mo0 d s') 0) ∧ RS (B + 240) (f_X9_carryOut q v (nI c.2.1) (nI c.2.2.1) (nI c.2.2.2.1)) s')) := by
  obtain ⟨b, k, x, y, E⟩ := c
  obtain ⟨r1, r2, r3⟩ := hr
  have r1 : d.2.2.2.2.2.2.2.2.2.2.2.2.2.1 (3 * i) = nI (pcd k) := r1
  have r2 : d.2.2.2.2.2.2.2.2.2.2.2.2.2.1 (3 * i + 1) = nI x := r2
  have r3 : k ≤ 5 → d.2.2.2.2.2.2.2.2.2.2.2.2.2.1 (3 * i + 2) = nI y := r3
  have hv : k < 8 := hv
  have v0 : vp_in (nI (3 * i)) 93 := vp_in_nI (by omega) (by decide)
  have v1 : vp_in (nI (3 * i + 1)) 93 := vp_in_nI (by omega) (by decide)
  have v2 : vp_in (nI (3 * i + 2)) 93 := vp_in_nI (by omega) (by decide)
  unfold ok_X10_does f_X10_does
  rw [q_3, pk_mul, nI_1, q_2, nI_add, nI_clamp (show 3 * i < 2 ^ 31 by omega), nI_clamp (show 3 * i + 1 < 2 ^ 31 by omega), nI_clamp (show 3 * i + 2 < 2 ^ 31 by omega), r1, r2]
  show (vp_in (nI (3 * i + 1)) 93 ∧ vp_in (nI (3 * i + 2)) 93 ∧ vp_in (nI (3 * i)) 93 ∧ _) ∧ _
  rcases (show k = 0 ∨ k = 1 ∨ k = 2 ∨ k = 3 ∨ k = 4 ∨ k = 5 ∨ k = 6 ∨ k = 7 by omega) with e | e | e | e | e | e | e | e
  · subst e
    rw [r3 (by decide)]
    obtain ⟨o, K⟩ := core_out (C_gives h (nI x) (nI y)) (by omega : B ≤ B + 240)
    refine ⟨⟨v1, v2, v0, ?_⟩, ?_⟩
    · rw [if_pos rfl]; exact ⟨o, trivial⟩
    · rw [if_pos rfl]; exact K
  · subst e
    rw [r3 (by decide)]
    obtain ⟨o, K⟩ := core_out (C_takes h (nI x) (nI y)) (by omega : B ≤ B + 240)
    refine ⟨⟨v1, v2, v0, ?_⟩, ?_⟩
    · rw [if_neg (by decide)]; rw [if_neg (by decide)]; rw [if_neg (by decide)]; rw [if_neg (by decide)]; rw [if_neg (by decide)]; rw [if_neg (by decide)]; rw [if_neg (by decide)]; rw [if_neg (by decide)]; rw [if_neg (by decide)]; rw [if_neg (by decide)]; rw [if_neg (by decide)]; rw [if_neg (by decide)]; rw [if_neg (by decide)]; rw [if_pos rfl]; exact ⟨o, trivial⟩
    · rw [if_neg (by decide)]; rw [if_neg (by decide)]; rw [if_neg (by decide)]; rw [if_neg (by decide)]; rw [if_neg (by decide)]; rw [if_neg (by decide)]; rw [if_neg (by decide)]; rw [if_neg (by decide)]; rw [if_neg (by decide)]; rw [if_neg (by decide)]; rw [if_neg (by decide)]; rw [if_neg (by decide)]; rw [if_neg (by decide)]; rw [if_pos rfl]; exact K
  · subst e
    rw [r3 (by decide)]
    obtain ⟨o, K⟩ := core_out (C_tries h hB (nI x) (nI y)) (by omega : B + 240 ≤ B + 240)
    refine ⟨⟨v1, v2, v0, ?_⟩, ?_⟩
    · rw [if_neg (by decide)]; rw [if_neg (by decide)]; rw [if_neg (by decide)]; rw [if_neg (by decide)]; rw [if_neg (by decide)]; rw [if_neg (by decide)]; rw [if_neg (by decide)]; rw [if_neg (by decide)]; rw [if_neg (by decide)]; rw [if_neg (by decide)]; rw [if_neg (by decide)]; rw [if_pos rfl]; exact ⟨o, trivial⟩
    · rw [if_neg (by decide)]; rw [if_neg (by decide)]; rw [if_neg (by decide)]; rw [if_neg (by decide)]; rw [if_neg (by decide)]; rw [if_neg (by decide)]; rw [if_neg (by decide)]; rw [if_neg (by decide)]; rw [if_neg (by decide)]; rw [if_neg (by decide)]; rw [if_neg (by decide)]; rw [if_pos rfl]; exact K
  · subst e
    rw [r3 (by decide)]
    obtain ⟨o, K⟩ := core_out (C_excepts h (by omega) (nI x) (nI y) 1 (Or.inr rfl)) (by omega : B ≤ B + 240)
    refine ⟨⟨v1, v2, v0, ?_⟩, ?_⟩
    · rw [if_neg (by decide)]; rw [if_neg (by decide)]; rw [if_neg (by decide)]; rw [if_neg (by decide)]; rw [if_neg (by decide)]; rw [if_neg (by decide)]; rw [if_neg (by decide)]; rw [if_neg (by decide)]; rw [if_pos rfl]; exact ⟨o, trivial⟩
    · rw [if_neg (by decide)]; rw [if_neg (by decide)]; rw [if_neg (by decide)]; rw [if_neg (by decide)]; rw [if_neg (by decide)]; rw [if_neg (by decide)]; rw [if_neg (by decide)]; rw [if_neg (by decide)]; rw [if_pos rfl]; exact K
  · subst e
    rw [r3 (by decide)]
    obtain ⟨o, K⟩ := core_out (C_excepts h (by omega) (nI x) (nI y) 0 (Or.inl rfl)) (by omega : B ≤ B + 240)
    refine ⟨⟨v1, v2, v0, ?_⟩, ?_⟩
    · rw [if_neg (by decide)]; rw [if_neg (by decide)]; rw [if_neg (by decide)]; rw [if_neg (by decide)]; rw [if_neg (by decide)]; rw [if_neg (by decide)]; rw [if_neg (by decide)]; rw [if_neg (by decide)]; rw [if_neg (by decide)]; rw [if_neg (by decide)]; rw [if_neg (by decide)]; rw [if_neg (by decide)]; rw [if_pos rfl]; exact ⟨o, trivial⟩
    · rw [if_neg (by decide)]; rw [if_neg (by decide)]; rw [if_neg (by decide)]; rw [if_neg (by decide)]; rw [if_neg (by decide)]; rw [if_neg (by decide)]; rw [if_neg (by decide)]; rw [if_neg (by decide)]; rw [if_neg (by decide)]; rw [if_neg (by decide)]; rw [if_neg (by decide)]; rw [if_neg (by decide)]; rw [if_pos rfl]; exact K
  · subst e
    rw [r3 (by decide)]
    obtain ⟨o, K⟩ := core_out ((C_lifts h (nI x) (nI y)).1) (by omega : B ≤ B + 240)
    refine ⟨⟨v1, v2, v0, ?_⟩, ?_⟩
    · rw [if_neg (by decide)]; rw [if_neg (by decide)]; rw [if_neg (by decide)]; rw [if_neg (by decide)]; rw [if_neg (by decide)]; rw [if_pos rfl]; exact ⟨o, trivial⟩
    · rw [if_neg (by decide)]; rw [if_neg (by decide)]; rw [if_neg (by decide)]; rw [if_neg (by decide)]; rw [if_neg (by decide)]; rw [if_pos rfl]; exact K
  · subst e
    obtain ⟨o, K⟩ := core_out (C_moons h (nI x)) (by omega : B ≤ B + 240)
    refine ⟨⟨v1, v2, v0, ?_⟩, ?_⟩
    · rw [if_neg (by decide)]; rw [if_neg (by decide)]; rw [if_neg (by decide)]; rw [if_neg (by decide)]; rw [if_neg (by decide)]; rw [if_neg (by decide)]; rw [if_pos rfl]; exact trivial
    · rw [if_neg (by decide)]; rw [if_neg (by decide)]; rw [if_neg (by decide)]; rw [if_neg (by decide)]; rw [if_neg (by decide)]; rw [if_neg (by decide)]; rw [if_pos rfl]; exact K
  · subst e
    obtain ⟨o, K⟩ := core_out (C_waits h hB (nI x)) (by omega : B + 240 ≤ B + 240)
    refine ⟨⟨v1, v2, v0, ?_⟩, ?_⟩
    · rw [if_neg (by decide)]; rw [if_neg (by decide)]; rw [if_neg (by decide)]; rw [if_neg (by decide)]; rw [if_neg (by decide)]; rw [if_neg (by decide)]; rw [if_neg (by decide)]; rw [if_neg (by decide)]; rw [if_neg (by decide)]; rw [if_neg (by decide)]; rw [if_neg (by decide)]; rw [if_neg (by decide)]; rw [if_neg (by decide)]; rw [if_neg (by decide)]; exact ⟨o, trivial⟩
    · rw [if_neg (by decide)]; rw [if_neg (by decide)]; rw [if_neg (by decide)]; rw [if_neg (by decide)]; rw [if_neg (by decide)]; rw [if_neg (by decide)]; rw [if_neg (by decide)]; rw [if_neg (by decide)]; rw [if_neg (by decide)]; rw [if_neg (by decide)]; rw [if_neg (by decide)]; rw [if_neg (by decide)]; rw [if_neg (by decide)]; rw [if_neg (by decide)]; exact K
/-! ===== running ===== -/
theorem P_run {l : List Nat} {sb : SbV} (hT : TX sb l) (hl : l.length ≤ 60) {B : Nat} (hB : B < 2 ^ 28) (q : McV) (v0 : StV) (pg0 u2 : PrV) (D : MoV) (dd : MoV) (u3 : Int32 × MoV) (u6 u10 : MoV) {N : Nat} (g0 : Nat) (hN : N ≤ 30) (hD : D.2.2.2.2.2.2.2.2.2.2.2.2.2.2.2.2 = nI N)
    (hg : ∀ i, i < N → pgood l D.2.2.2.2.2.2.2.2.2.2.2.2.2.1 i ∧ (i + 1 < N → l.getD (pcm (fun i => l.getD i 0) (pps (fun i => l.getD i 0) i)).2.2.2.2 0 = 59)) : ∀ (n i : Nat) (v : StV) (pg : PrV) (s : Nat → Int32) (t : Int32), i ≤ N → N < n + i → RS (B + 240 * i) v s → (i < N → pg.1 = nI (pps (fun i => l.getD i 0) i)) →
    okl_lp_X9_runCommands_9 q v0 pg0 sb (nI N) u2 n (nI i) v pg ∧
    ((okl_lp_X10_execute_43 dd u3 u6 u10 (n + g0) (nI i) (mo8 (mo5 (mo0 D s) 0) t) ∧ ∃ (pg' : PrV) (j : Nat) (v' : StV) (s' : Nat → Int32) (th t' : Int32), j < N ∧ lp_X9_runCommands_9 q v0 pg0 sb (nI N) u2 n (nI i) v pg = (nI j, v', pg') ∧ lp_X10_execute_43 dd u3 u6 u10 (n + g0) (nI i) (mo8 (mo5 (mo0 D s) 0) t) = (0, mo8 (mo7 (mo5 (mo0 D (f_X10_copies 249 D.2.1 0 249 s' 0)) 2) (nI j)) t')) ∨
     (∃ (pg' : PrV) (v' : StV) (s' : Nat → Int32) (t' : Int32), (ok_X10_ends (mo8 (mo5 (mo0 D s') 0) t') (nI N) → okl_lp_X10_execute_43 dd u3 u6 u10 (n + g0) (nI i) (mo8 (mo5 (mo0 D s) 0) t)) ∧ lp_X9_runCommands_9 q v0 pg0 sb (nI N) u2 n (nI i) v pg = (-1, v', pg') ∧ lp_X10_execute_43 dd u3 u6 u10 (n + g0) (nI i) (mo8 (mo5 (mo0 D s) 0) t) = f_X10_ends (mo8 (mo5 (mo0 D s') 0) t') (nI N) ∧ RS (B + 240 * N) v' s')) := by
  intro n
  induction n with
  | zero => intro i v pg s t h1 h2; omega
  | succ n ih =>
    intro i v pg s t h1 h2 hS hp
    rw [show n + 1 + g0 = n + g0 + 1 by omega]
    simp only [lp_X9_runCommands_9, okl_lp_X9_runCommands_9, lp_X10_execute_43, okl_lp_X10_execute_43]
    have hD' : (mo8 (mo5 (mo0 D s) 0) t).2.2.2.2.2.2.2.2.2.2.2.2.2.2.2.2 = nI N := hD
    by_cases e : i = N
    · subst e
      rw [if_pos (nI_le (Nat.le_refl i) (by omega)), if_pos (nI_le (Nat.le_refl i) (by omega)), hD', if_pos (nI_le (Nat.le_refl i) (by omega)), if_pos (nI_le (Nat.le_refl i) (by omega))]
      exact ⟨trivial, Or.inr ⟨pg, v, s, t, fun o => ⟨o, trivial⟩, rfl, rfl, hS⟩⟩
    · have hlt : i < N := by omega
      obtain ⟨⟨g1, g2⟩, g3⟩ := hg i hlt
      obtain ⟨c1, c2, c3⟩ := pcm_pos (fun i => l.getD i 0) (pps (fun i => l.getD i 0) i)
      obtain ⟨f1, f2, f3⟩ := c3 g1
      have hpl : pps (fun i => l.getD i 0) i < l.length := by
        apply Decidable.byContradiction
        intro w
        exact f2 (pg_out (by omega))
      obtain ⟨p1, pr⟩ := pg
      have hp1 : p1 = nI (pps (fun i => l.getD i 0) i) := hp hlt
      subst hp1
      obtain ⟨⟨q', x1, x2, x3⟩, x4⟩ := x_cmd hT pr (p := pps (fun i => l.getD i 0) i) (by omega)
      have x3 := x3 g1
      subst x3
      obtain ⟨d1, d2⟩ := P_does (d := mo5 (mo8 (mo5 (mo0 D s) 0) t) 0) hS (by omega) (i := i) (by omega) g2 f1 q
      obtain ⟨t1, t2⟩ := x_rs hT (nI (pcm (fun i => l.getD i 0) (pps (fun i => l.getD i 0) i)).2.1, nI (pcm (fun i => l.getD i 0) (pps (fun i => l.getD i 0) i)).2.2.1, nI (pcm (fun i => l.getD i 0) (pps (fun i => l.getD i 0) i)).2.2.2.1) (p := (pcm (fun i => l.getD i 0) (pps (fun i => l.getD i 0) i)).2.2.2.2) (c := 59) (by omega) (by decide)
      have nle : ¬ nI N ≤ nI i := nI_ge hlt (by omega)
      rw [if_neg nle, if_neg nle, hD', if_neg nle, if_neg nle, x1]
      rcases d2 with ⟨hF, th, hth, hR⟩ | ⟨hF, s', t', hR, hS'⟩
      · refine ⟨⟨x4, fun u hu => ?_⟩, Or.inl ⟨⟨d1, ?_⟩, _, i, v, s, th, 0, hlt, ?_, ?_⟩⟩
        · subst hu
          exact (if_neg hF).mpr trivial
        · rw [hR]
          have cp := (m_copies (fn := 249) (gn := 249) (i := 0) (j := 0) D.2.1 s (by decide) (by decide) (by decide) (by decide)).2
          exact (if_neg hth).mpr ⟨cp, trivial⟩
        · exact if_neg hF
        · rw [hR]
          exact if_neg hth
      · obtain ⟨i1, i2⟩ := ih (i + 1) (f_X9_carryOut q v (nI (pcm (fun i => l.getD i 0) (pps (fun i => l.getD i 0) i)).2.1) (nI (pcm (fun i => l.getD i 0) (pps (fun i => l.getD i 0) i)).2.2.1) (nI (pcm (fun i => l.getD i 0) (pps (fun i => l.getD i 0) i)).2.2.2.1)) (f_X6_readSign (nI (pcm (fun i => l.getD i 0) (pps (fun i => l.getD i 0) i)).2.2.2.2, nI (pcm (fun i => l.getD i 0) (pps (fun i => l.getD i 0) i)).2.1, nI (pcm (fun i => l.getD i 0) (pps (fun i => l.getD i 0) i)).2.2.1, nI (pcm (fun i => l.getD i 0) (pps (fun i => l.getD i 0) i)).2.2.2.1) sb 59).2 s' t' (by omega) (by omega) hS' (fun w => by
          rw [q_59, t1, if_pos (g3 w)]; rfl)
        refine ⟨⟨x4, fun u hu => ?_⟩, ?_⟩
        · subst hu
          refine (if_pos hF).mpr ?_
          intro u10 h10
          subst h10
          refine ⟨t2, fun u13 h13 => ?_⟩
          subst h13
          rw [nI_1]
          exact i1
        · have eC : (if f_X9_faultOfCommand q v (nI (pcm (fun i => l.getD i 0) (pps (fun i => l.getD i 0) i)).2.1) (nI (pcm (fun i => l.getD i 0) (pps (fun i => l.getD i 0) i)).2.2.1) (nI (pcm (fun i => l.getD i 0) (pps (fun i => l.getD i 0) i)).2.2.2.1) = 0 then True else False) := (if_pos hF).mpr trivial
          simp only [hF, ite_true, hR, nI_1]
          rcases i2 with ⟨o1, r1⟩ | ⟨pg', v', s'', t'', o1, r1⟩
          · exact Or.inl ⟨⟨d1, o1⟩, r1⟩
          · exact Or.inr ⟨pg', v', s'', t'', fun o => ⟨d1, o1 o⟩, r1⟩
/-! ===== execute ===== -/
theorem R_execute {B : Nat} {q : McV} {v sn : StV} {hi : HiV} {hs : Nat → StV} {tb nt : SbV} {d : MoV} (h : RW B q v sn hi hs tb nt d) (hB : B < 2 ^ 28) (pg : PrV) :
    (ok_X10_execute d ∧ ok_X9_execute q v hi hs pg tb) ∧ RC ["java/lang/IllegalArgumentException", "java/lang/IllegalStateException"] (f_X9_execute q v hi hs pg tb).1 (f_X9_execute q v hi hs pg tb).2.1 (f_X10_execute d).1 (f_X10_execute d).2.2.2.2.2.2.1 ∧
    RW (B + 7200) (f_X9_execute q v hi hs pg tb).2.2.1 (f_X9_execute q v hi hs pg tb).2.2.2.1 sn (f_X9_execute q v hi hs pg tb).2.2.2.2.1 (f_X9_execute q v hi hs pg tb).2.2.2.2.2.1 (f_X9_execute q v hi hs pg tb).2.2.2.2.2.2.2 nt (f_X10_execute d).2 := by
  obtain ⟨r1, r2, r3, r4, r5, r6, r7⟩ := id h
  obtain ⟨l, hT, hM, hl, hc⟩ := r6
  obtain ⟨p1, p2, pg', m, x, E, P⟩ := P_prog hT hl pg d hM
  obtain ⟨k1, k2⟩ := tx_clear hT
  have hclr : ∀ f, RT (f_J4_setLength_d00df tb 0) f 0 := fun f => ⟨[], k2, ⟨rfl, fun i hi => absurd hi (Nat.not_lt_zero i)⟩, by decide, fun c hc => absurd hc List.not_mem_nil⟩
  rcases P with ⟨e1, e2, e3, e4⟩ | ⟨N, n1, n2, e1, e4, hg⟩
  · unfold ok_X10_execute ok_X9_execute f_X10_execute f_X9_execute
    rw [e1, e4]
    simp only [ite_true, m_thr1]
    refine ⟨⟨⟨p2, trivial⟩, p1, fun u hu => ?_⟩, RC.x1 (by decide), r1.mono (by omega), r2.mono (by omega), r3.mono (by omega), ⟨e2, Or.inr ⟨E, e3, e2⟩⟩, r5, hclr _, r7⟩
    subst hu
    exact (if_pos rfl).mpr ⟨⟨k1, trivial⟩, trivial⟩
  · have nm : ¬ nI N = (-1 : Int32) := fun w => (q_neM (by omega)).mp w
    have y0 : ¬ (1 : Int32) = 0 := by decide
    obtain ⟨K1, K2⟩ := m_keeps (mo5 (mo14 (mo15 (mo16 (mo13 d m) (nI N)) (nI E)) 0) 0)
    have fu : (((nI N)).toInt - ((0 : Int32)).toInt).toNat + 1 = N + 1 := by
      rw [nI_toInt (show N < 2 ^ 31 by omega), show (0 : Int32).toInt = 0 from rfl]; omega
    have fu2 : N + 1 + (61 - N) = 62 := by omega
    obtain ⟨o1, o2⟩ := P_run hT hl hB q v pg' (f_X6_rewind pg' tb) (mo1 (mo14 (mo15 (mo16 (mo13 d m) (nI N)) (nI E)) 0) (fun q => if q < 249 then d.1 q else d.2.1 q)) d (1, mo15 (mo16 (mo13 d m) (nI N)) (nI E)) (mo5 (mo14 (mo15 (mo16 (mo13 d m) (nI N)) (nI E)) 0) 0) (f_X10_keeps (mo5 (mo14 (mo15 (mo16 (mo13 d m) (nI N)) (nI E)) 0) 0)) (61 - N) n1 rfl hg (N + 1) 0 v (f_X6_rewind pg' tb) d.1 d.2.2.2.2.2.2.2.2.1 (by omega) (by omega) r1 (fun _ => rfl)
    rw [fu2] at o2
    have eR : f_X9_runCommands q v pg' tb (nI N) = lp_X9_runCommands_9 q v pg' tb (nI N) (f_X6_rewind pg' tb) (N + 1) (nI 0) v (f_X6_rewind pg' tb) := by
      unfold f_X9_runCommands
      rw [fu]; rfl
    have e9 : ok_X9_execute q v hi hs pg tb := by
      unfold ok_X9_execute
      refine ⟨p1, fun u hu => ?_⟩
      subst hu
      rw [e1]
      refine (if_neg nm).mpr (fun u6 h6 => ⟨?_, fun u9 h9 => ⟨⟨k1, trivial⟩, trivial⟩⟩)
      unfold ok_X9_runCommands
      intro u2 hu2
      subst hu2
      rw [fu]
      exact o1
    have e10 : f_X10_execute d = lp_X10_execute_43 d (1, mo15 (mo16 (mo13 d m) (nI N)) (nI E)) (mo5 (mo14 (mo15 (mo16 (mo13 d m) (nI N)) (nI E)) 0) 0) (f_X10_keeps (mo5 (mo14 (mo15 (mo16 (mo13 d m) (nI N)) (nI E)) 0) 0)) 62 (nI 0) (f_X10_keeps (mo5 (mo14 (mo15 (mo16 (mo13 d m) (nI N)) (nI E)) 0) 0)) := by
      unfold f_X10_execute
      rw [e4]
      exact if_neg y0
    have o10 : okl_lp_X10_execute_43 d (1, mo15 (mo16 (mo13 d m) (nI N)) (nI E)) (mo5 (mo14 (mo15 (mo16 (mo13 d m) (nI N)) (nI E)) 0) 0) (f_X10_keeps (mo5 (mo14 (mo15 (mo16 (mo13 d m) (nI N)) (nI E)) 0) 0)) 62 (nI 0) (mo8 (mo5 (mo0 (mo1 (mo14 (mo15 (mo16 (mo13 d m) (nI N)) (nI E)) 0) (fun q => if q < 249 then d.1 q else d.2.1 q)) d.1) 0) d.2.2.2.2.2.2.2.2.1) → ok_X10_execute d := fun o => by
      unfold ok_X10_execute
      rw [e4]
      refine ⟨p2, (if_neg y0).mpr ⟨K2, ?_⟩⟩
      have K3 : f_X10_keeps (mo5 (mo14 (mo15 (mo16 (mo13 d m) (nI N)) (nI E)) 0) 0) = mo8 (mo5 (mo0 (mo1 (mo14 (mo15 (mo16 (mo13 d m) (nI N)) (nI E)) 0) (fun q => if q < 249 then d.1 q else d.2.1 q)) d.1) 0) d.2.2.2.2.2.2.2.2.1 := K1
      rw [← K3] at o
      exact o
    have K3 : f_X10_keeps (mo5 (mo14 (mo15 (mo16 (mo13 d m) (nI N)) (nI E)) 0) 0) = mo8 (mo5 (mo0 (mo1 (mo14 (mo15 (mo16 (mo13 d m) (nI N)) (nI E)) 0) (fun q => if q < 249 then d.1 q else d.2.1 q)) d.1) 0) d.2.2.2.2.2.2.2.2.1 := K1
    have h9 : f_X9_execute q v hi hs pg tb = (if (f_X9_runCommands q v pg' tb (nI N)).1 = -1 then ("", nI N, q, (f_X9_runCommands q v pg' tb (nI N)).2.1, f_X4_keepDraft hi, f_X4_draft hi hs v, (f_X9_runCommands q v pg' tb (nI N)).2.2, f_J4_setLength_d00df tb 0) else ("java/lang/IllegalStateException", 0, (q.1, q.2.1, (f_X9_runCommands q v pg' tb (nI N)).1), f_X4_dropDraft hi (f_X4_draft hi hs v) (f_X9_runCommands q v pg' tb (nI N)).2.1, hi, f_X4_draft hi hs v, (f_X9_runCommands q v pg' tb (nI N)).2.2, f_J4_setLength_d00df tb 0)) := by
      unfold f_X9_execute
      rw [e1]
      exact if_neg nm
    rw [h9, eR]
    rcases o2 with ⟨oo, pg2, j, v', s', th, t', hj, hL, hR⟩ | ⟨pg2, v', s', t', oo, hL, hR, hS⟩
    · have nj : ¬ nI j = (-1 : Int32) := fun w => (q_neM (by omega)).mp w
      rw [hL, if_neg nj]
      have e11 : f_X10_execute d = _ := e10.trans ((congrArg (fun z => lp_X10_execute_43 d (1, mo15 (mo16 (mo13 d m) (nI N)) (nI E)) (mo5 (mo14 (mo15 (mo16 (mo13 d m) (nI N)) (nI E)) 0) 0) (f_X10_keeps (mo5 (mo14 (mo15 (mo16 (mo13 d m) (nI N)) (nI E)) 0) 0)) 62 (nI 0) z) K3).trans hR)
      rw [e11]
      have cp := (m_copies (fn := 249) (gn := 249) (i := 0) (j := 0) (fun q => if q < 249 then d.1 q else d.2.1 q) s' (by decide) (by decide) (by decide) (by decide)).1
      have cp : f_X10_copies 249 (fun q => if q < 249 then d.1 q else d.2.1 q) 0 249 s' 0 = _ := cp
      obtain ⟨k, xx, g1, g2, g3, g4, g5, g6⟩ := id r2
      have hx : hi.2.toNatClampNeg = xx := by rw [g4, nI_clamp (by omega)]
      refine ⟨⟨o10 oo, e9⟩, RC.x2 (by decide), ?_, ?_, r3.mono (by omega), r4, ⟨rfl, Or.inr ⟨j, by omega, rfl⟩⟩, hclr _, r7⟩
      · show RS (B + 7200) (f_X4_copy (va_up hs hi.2.toNatClampNeg (f_X4_copy v (hs hi.2.toNatClampNeg)) hi.2.toNatClampNeg) v') (f_X10_copies 249 (fun q => if q < 249 then d.1 q else d.2.1 q) 0 249 s' 0)
        rw [va_up_self, cp]
        refine ((r1.copy _).copy _).mono (by omega) |>.congr (fun a ha => ?_)
        show (if 0 ≤ a ∧ a < 0 + 249 then (if 0 + (a - 0) < 249 then d.1 (0 + (a - 0)) else d.2.1 (0 + (a - 0))) else s' a) = d.1 a
        rw [if_pos (by omega), if_pos (by omega), show 0 + (a - 0) = a by omega]
      · refine ⟨k, xx, g1, g2, g3, g4, g5, fun i hi' => ?_⟩
        show RS (B + 7200) (va_up hs hi.2.toNatClampNeg (f_X4_copy v (hs hi.2.toNatClampNeg)) ((xx + 9 - k + i) % 9)) _
        rw [hx, va_up_ne _ _ (by omega)]
        exact (g6 i hi').mono (by omega)
    · rw [hL, if_pos rfl]
      have e11 : f_X10_execute d = _ := e10.trans ((congrArg (fun z => lp_X10_execute_43 d (1, mo15 (mo16 (mo13 d m) (nI N)) (nI E)) (mo5 (mo14 (mo15 (mo16 (mo13 d m) (nI N)) (nI E)) 0) 0) (f_X10_keeps (mo5 (mo14 (mo15 (mo16 (mo13 d m) (nI N)) (nI E)) 0) 0)) 62 (nI 0) z) K3).trans hR)
      rw [e11]
      have h' : RW B q v sn hi hs (f_J4_setLength_d00df tb 0) nt (mo8 (mo14 (mo15 (mo16 (mo13 d m) (nI N)) (nI E)) 0) t') := ⟨r1, r2, r3, r4, r5, hclr _, r7⟩
      obtain ⟨m1, m2, m3, m4⟩ := m_modify h' (by omega : B ≤ B + 7200) s' (nI N) (hS.mono (by omega)) (fun q => if q < 249 then d.1 q else d.2.1 q) (fun a ha => if_pos ha)
      refine ⟨⟨o10 (oo m1), e9⟩, ?_, m4⟩
      exact Or.inl ⟨rfl, m3, m2.symm⟩
