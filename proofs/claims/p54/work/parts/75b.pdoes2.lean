/-! ===== carrying out one command ===== -/
theorem core_out {B F : Nat} {A : Int32 × StV} {xs : List String} {O : Prop} {R : Int32 × MoV} {d : MoV} (h : CORE B F A xs O R d) {B' : Nat} (hB : B ≤ B') : O ∧ ((F ≠ 0 ∧ ∃ th : Int32, th ≠ 0 ∧ R = (0, mo5 d th)) ∨ F = 0 ∧ ∃ (s' : Nat → Int32) (t : Int32), R = (t, mo5 (mo0 d s') 0) ∧ RS B' A.2 s') := by
  obtain ⟨o, h⟩ := h
  refine ⟨o, ?_⟩
  rcases h with ⟨k, h1, h2, h3, h4, h5⟩ | ⟨h1, s', h2, h3⟩
  · exact Or.inl ⟨h2, nI (k + 1), nI_ne0 (by omega) (by omega), h5⟩
  · exact Or.inr ⟨h1, s', A.1, h2, h3.mono hB⟩
theorem fc_0 (q : McV) (v : StV) (x y : Int32) : f_X9_faultOfCommand q v (nI 0) x y = f_X5_faultOfGiving v.2.2.2.2.1 x y := by
  unfold f_X9_faultOfCommand
  rw [if_pos (by decide)]
theorem cq_0 (q : McV) (v : StV) (x y : Int32) : f_X9_carryOut q v (nI 0) x y = (v.1, v.2.1, v.2.2.1, v.2.2.2.1, (f_X5_give v.2.2.2.2.1 x y).2, v.2.2.2.2.2) := by
  unfold f_X9_carryOut
  rw [if_pos (by decide)]
theorem fc_1 (q : McV) (v : StV) (x y : Int32) : f_X9_faultOfCommand q v (nI 1) x y = f_X5_faultOfTaking v.2.2.2.2.1 x y := by
  unfold f_X9_faultOfCommand
  rw [if_neg (by decide), if_pos (by decide)]
theorem cq_1 (q : McV) (v : StV) (x y : Int32) : f_X9_carryOut q v (nI 1) x y = (v.1, v.2.1, v.2.2.1, v.2.2.2.1, (f_X5_take v.2.2.2.2.1 x y).2, v.2.2.2.2.2) := by
  unfold f_X9_carryOut
  rw [if_neg (by decide), if_pos (by decide)]
theorem fc_2 (q : McV) (v : StV) (x y : Int32) : f_X9_faultOfCommand q v (nI 2) x y = f_X8_faultOfAttempt v x y := by
  unfold f_X9_faultOfCommand
  rw [if_neg (by decide), if_neg (by decide), if_pos (by decide)]
theorem cq_2 (q : McV) (v : StV) (x y : Int32) : f_X9_carryOut q v (nI 2) x y = (f_X8_attempt v x y).2 := by
  unfold f_X9_carryOut
  rw [if_neg (by decide), if_neg (by decide), if_pos (by decide)]
theorem fc_3 (q : McV) (v : StV) (x y : Int32) : f_X9_faultOfCommand q v (nI 3) x y = f_X8_faultOfNewException v x y := by
  unfold f_X9_faultOfCommand
  rw [if_neg (by decide), if_neg (by decide), if_neg (by decide), if_pos (by decide)]
theorem cq_3 (q : McV) (v : StV) (x y : Int32) : f_X9_carryOut q v (nI 3) x y = (v.1, v.2.1, v.2.2.1, (f_X1_insert v.2.2.2.1 x y 1).2, v.2.2.2.2.1, v.2.2.2.2.2) := by
  unfold f_X9_carryOut
  rw [if_neg (by decide), if_neg (by decide), if_neg (by decide), if_pos (by decide)]
theorem fc_4 (q : McV) (v : StV) (x y : Int32) : f_X9_faultOfCommand q v (nI 4) x y = f_X8_faultOfNewException v x y := by
  unfold f_X9_faultOfCommand
  rw [if_neg (by decide), if_neg (by decide), if_neg (by decide), if_neg (by decide), if_pos (by decide)]
theorem cq_4 (q : McV) (v : StV) (x y : Int32) : f_X9_carryOut q v (nI 4) x y = (v.1, v.2.1, v.2.2.1, (f_X1_insert v.2.2.2.1 x y 0).2, v.2.2.2.2.1, v.2.2.2.2.2) := by
  unfold f_X9_carryOut
  rw [if_neg (by decide), if_neg (by decide), if_neg (by decide), if_neg (by decide), if_pos (by decide)]
theorem fc_5 (q : McV) (v : StV) (x y : Int32) : f_X9_faultOfCommand q v (nI 5) x y = f_X8_faultOfLifting v x y := by
  unfold f_X9_faultOfCommand
  rw [if_neg (by decide), if_neg (by decide), if_neg (by decide), if_neg (by decide), if_neg (by decide), if_pos (by decide)]
theorem cq_5 (q : McV) (v : StV) (x y : Int32) : f_X9_carryOut q v (nI 5) x y = (v.1, v.2.1, v.2.2.1, (f_X1_remove v.2.2.2.1 x y).2, v.2.2.2.2.1, v.2.2.2.2.2) := by
  unfold f_X9_carryOut
  rw [if_neg (by decide), if_neg (by decide), if_neg (by decide), if_neg (by decide), if_neg (by decide), if_pos (by decide)]
theorem fc_6 (q : McV) (v : StV) (x y : Int32) : f_X9_faultOfCommand q v (nI 6) x y = f_X8_faultOfCycle x := by
  unfold f_X9_faultOfCommand
  rw [if_neg (by decide), if_neg (by decide), if_neg (by decide), if_neg (by decide), if_neg (by decide), if_neg (by decide), if_pos (by decide)]
theorem cq_6 (q : McV) (v : StV) (x y : Int32) : f_X9_carryOut q v (nI 6) x y = (f_X8_changeCycle v x).2 := by
  unfold f_X9_carryOut
  rw [if_neg (by decide), if_neg (by decide), if_neg (by decide), if_neg (by decide), if_neg (by decide), if_neg (by decide), if_pos (by decide)]
theorem fc_7 (q : McV) (v : StV) (x y : Int32) : f_X9_faultOfCommand q v (nI 7) x y = f_X8_faultOfWaiting x := by
  unfold f_X9_faultOfCommand
  rw [if_neg (by decide), if_neg (by decide), if_neg (by decide), if_neg (by decide), if_neg (by decide), if_neg (by decide), if_neg (by decide)]
theorem cq_7 (q : McV) (v : StV) (x y : Int32) : f_X9_carryOut q v (nI 7) x y = (f_X8_passHours v x).2 := by
  unfold f_X9_carryOut
  rw [if_neg (by decide), if_neg (by decide), if_neg (by decide), if_neg (by decide), if_neg (by decide), if_neg (by decide), if_neg (by decide)]
theorem dz_0 (d : MoV) (i : Int32) (x y : Int32) (h0 : d.2.2.2.2.2.2.2.2.2.2.2.2.2.1 i.toNatClampNeg = 103) (h1 : d.2.2.2.2.2.2.2.2.2.2.2.2.2.1 (i + 1).toNatClampNeg = x) (h2 : d.2.2.2.2.2.2.2.2.2.2.2.2.2.1 (i + 2).toNatClampNeg = y) : f_X10_does d i = f_X10_gives d x y ∧ ((vp_in (i + 1) 93 ∧ vp_in (i + 2) 93 ∧ vp_in i 93 ∧ ok_X10_gives d x y) → ok_X10_does d i) := by
  unfold f_X10_does ok_X10_does
  rw [h0, h1, h2]
  refine ⟨?_, fun o => ⟨o.1, o.2.1, o.2.2.1, ?_⟩⟩
  · rw [if_pos (by decide)]
  · rw [if_pos (by decide)]; exact ⟨o.2.2.2, trivial⟩
theorem dz_1 (d : MoV) (i : Int32) (x y : Int32) (h0 : d.2.2.2.2.2.2.2.2.2.2.2.2.2.1 i.toNatClampNeg = 116) (h1 : d.2.2.2.2.2.2.2.2.2.2.2.2.2.1 (i + 1).toNatClampNeg = x) (h2 : d.2.2.2.2.2.2.2.2.2.2.2.2.2.1 (i + 2).toNatClampNeg = y) : f_X10_does d i = f_X10_takes d x y ∧ ((vp_in (i + 1) 93 ∧ vp_in (i + 2) 93 ∧ vp_in i 93 ∧ ok_X10_takes d x y) → ok_X10_does d i) := by
  unfold f_X10_does ok_X10_does
  rw [h0, h1, h2]
  refine ⟨?_, fun o => ⟨o.1, o.2.1, o.2.2.1, ?_⟩⟩
  · rw [if_neg (by decide), if_neg (by decide), if_neg (by decide), if_neg (by decide), if_neg (by decide), if_neg (by decide), if_neg (by decide), if_neg (by decide), if_neg (by decide), if_neg (by decide), if_neg (by decide), if_neg (by decide), if_neg (by decide), if_pos (by decide)]
  · rw [if_neg (by decide), if_neg (by decide), if_neg (by decide), if_neg (by decide), if_neg (by decide), if_neg (by decide), if_neg (by decide), if_neg (by decide), if_neg (by decide), if_neg (by decide), if_neg (by decide), if_neg (by decide), if_neg (by decide), if_pos (by decide)]; exact ⟨o.2.2.2, trivial⟩
theorem dz_2 (d : MoV) (i : Int32) (x y : Int32) (h0 : d.2.2.2.2.2.2.2.2.2.2.2.2.2.1 i.toNatClampNeg = 114) (h1 : d.2.2.2.2.2.2.2.2.2.2.2.2.2.1 (i + 1).toNatClampNeg = x) (h2 : d.2.2.2.2.2.2.2.2.2.2.2.2.2.1 (i + 2).toNatClampNeg = y) : f_X10_does d i = f_X10_tries d x y ∧ ((vp_in (i + 1) 93 ∧ vp_in (i + 2) 93 ∧ vp_in i 93 ∧ ok_X10_tries d x y) → ok_X10_does d i) := by
  unfold f_X10_does ok_X10_does
  rw [h0, h1, h2]
  refine ⟨?_, fun o => ⟨o.1, o.2.1, o.2.2.1, ?_⟩⟩
  · rw [if_neg (by decide), if_neg (by decide), if_neg (by decide), if_neg (by decide), if_neg (by decide), if_neg (by decide), if_neg (by decide), if_neg (by decide), if_neg (by decide), if_neg (by decide), if_neg (by decide), if_pos (by decide)]
  · rw [if_neg (by decide), if_neg (by decide), if_neg (by decide), if_neg (by decide), if_neg (by decide), if_neg (by decide), if_neg (by decide), if_neg (by decide), if_neg (by decide), if_neg (by decide), if_neg (by decide), if_pos (by decide)]; exact ⟨o.2.2.2, trivial⟩
theorem dz_3 (d : MoV) (i : Int32) (x y : Int32) (h0 : d.2.2.2.2.2.2.2.2.2.2.2.2.2.1 i.toNatClampNeg = 111) (h1 : d.2.2.2.2.2.2.2.2.2.2.2.2.2.1 (i + 1).toNatClampNeg = x) (h2 : d.2.2.2.2.2.2.2.2.2.2.2.2.2.1 (i + 2).toNatClampNeg = y) : f_X10_does d i = f_X10_excepts d x y 1 ∧ ((vp_in (i + 1) 93 ∧ vp_in (i + 2) 93 ∧ vp_in i 93 ∧ ok_X10_excepts d x y 1) → ok_X10_does d i) := by
  unfold f_X10_does ok_X10_does
  rw [h0, h1, h2]
  refine ⟨?_, fun o => ⟨o.1, o.2.1, o.2.2.1, ?_⟩⟩
  · rw [if_neg (by decide), if_neg (by decide), if_neg (by decide), if_neg (by decide), if_neg (by decide), if_neg (by decide), if_neg (by decide), if_neg (by decide), if_pos (by decide)]
  · rw [if_neg (by decide), if_neg (by decide), if_neg (by decide), if_neg (by decide), if_neg (by decide), if_neg (by decide), if_neg (by decide), if_neg (by decide), if_pos (by decide)]; exact ⟨o.2.2.2, trivial⟩
theorem dz_4 (d : MoV) (i : Int32) (x y : Int32) (h0 : d.2.2.2.2.2.2.2.2.2.2.2.2.2.1 i.toNatClampNeg = 115) (h1 : d.2.2.2.2.2.2.2.2.2.2.2.2.2.1 (i + 1).toNatClampNeg = x) (h2 : d.2.2.2.2.2.2.2.2.2.2.2.2.2.1 (i + 2).toNatClampNeg = y) : f_X10_does d i = f_X10_excepts d x y 0 ∧ ((vp_in (i + 1) 93 ∧ vp_in (i + 2) 93 ∧ vp_in i 93 ∧ ok_X10_excepts d x y 0) → ok_X10_does d i) := by
  unfold f_X10_does ok_X10_does
  rw [h0, h1, h2]
  refine ⟨?_, fun o => ⟨o.1, o.2.1, o.2.2.1, ?_⟩⟩
  · rw [if_neg (by decide), if_neg (by decide), if_neg (by decide), if_neg (by decide), if_neg (by decide), if_neg (by decide), if_neg (by decide), if_neg (by decide), if_neg (by decide), if_neg (by decide), if_neg (by decide), if_neg (by decide), if_pos (by decide)]
  · rw [if_neg (by decide), if_neg (by decide), if_neg (by decide), if_neg (by decide), if_neg (by decide), if_neg (by decide), if_neg (by decide), if_neg (by decide), if_neg (by decide), if_neg (by decide), if_neg (by decide), if_neg (by decide), if_pos (by decide)]; exact ⟨o.2.2.2, trivial⟩
theorem dz_5 (d : MoV) (i : Int32) (x y : Int32) (h0 : d.2.2.2.2.2.2.2.2.2.2.2.2.2.1 i.toNatClampNeg = 108) (h1 : d.2.2.2.2.2.2.2.2.2.2.2.2.2.1 (i + 1).toNatClampNeg = x) (h2 : d.2.2.2.2.2.2.2.2.2.2.2.2.2.1 (i + 2).toNatClampNeg = y) : f_X10_does d i = f_X10_lifts d x y ∧ ((vp_in (i + 1) 93 ∧ vp_in (i + 2) 93 ∧ vp_in i 93 ∧ ok_X10_lifts d x y) → ok_X10_does d i) := by
  unfold f_X10_does ok_X10_does
  rw [h0, h1, h2]
  refine ⟨?_, fun o => ⟨o.1, o.2.1, o.2.2.1, ?_⟩⟩
  · rw [if_neg (by decide), if_neg (by decide), if_neg (by decide), if_neg (by decide), if_neg (by decide), if_pos (by decide)]
  · rw [if_neg (by decide), if_neg (by decide), if_neg (by decide), if_neg (by decide), if_neg (by decide), if_pos (by decide)]; exact ⟨o.2.2.2, trivial⟩
theorem dz_6 (d : MoV) (i : Int32) (x y : Int32) (h0 : d.2.2.2.2.2.2.2.2.2.2.2.2.2.1 i.toNatClampNeg = 109) (h1 : d.2.2.2.2.2.2.2.2.2.2.2.2.2.1 (i + 1).toNatClampNeg = x) : f_X10_does d i = f_X10_moons d x ∧ ((vp_in (i + 1) 93 ∧ vp_in (i + 2) 93 ∧ vp_in i 93 ∧ True) → ok_X10_does d i) := by
  unfold f_X10_does ok_X10_does
  rw [h0, h1]
  refine ⟨?_, fun o => ⟨o.1, o.2.1, o.2.2.1, ?_⟩⟩
  · rw [if_neg (by decide), if_neg (by decide), if_neg (by decide), if_neg (by decide), if_neg (by decide), if_neg (by decide), if_pos (by decide)]
  · rw [if_neg (by decide), if_neg (by decide), if_neg (by decide), if_neg (by decide), if_neg (by decide), if_neg (by decide), if_pos (by decide)]; exact trivial
theorem dz_7 (d : MoV) (i : Int32) (x y : Int32) (h0 : d.2.2.2.2.2.2.2.2.2.2.2.2.2.1 i.toNatClampNeg = 119) (h1 : d.2.2.2.2.2.2.2.2.2.2.2.2.2.1 (i + 1).toNatClampNeg = x) : f_X10_does d i = f_X10_waits d x ∧ ((vp_in (i + 1) 93 ∧ vp_in (i + 2) 93 ∧ vp_in i 93 ∧ ok_X10_waits d x) → ok_X10_does d i) := by
  unfold f_X10_does ok_X10_does
  rw [h0, h1]
  refine ⟨?_, fun o => ⟨o.1, o.2.1, o.2.2.1, ?_⟩⟩
  · rw [if_neg (by decide), if_neg (by decide), if_neg (by decide), if_neg (by decide), if_neg (by decide), if_neg (by decide), if_neg (by decide), if_neg (by decide), if_neg (by decide), if_neg (by decide), if_neg (by decide), if_neg (by decide), if_neg (by decide), if_neg (by decide)]
  · rw [if_neg (by decide), if_neg (by decide), if_neg (by decide), if_neg (by decide), if_neg (by decide), if_neg (by decide), if_neg (by decide), if_neg (by decide), if_neg (by decide), if_neg (by decide), if_neg (by decide), if_neg (by decide), if_neg (by decide), if_neg (by decide)]; exact ⟨o.2.2.2, trivial⟩
theorem P_does {B : Nat} {v : StV} {d : MoV} (h : RS B v d.1) (hB : B < 2 ^ 29) {i : Nat} (hi : i ≤ 29) {c : Bool × Nat × Nat × Nat × Nat} (hr : prow d.2.2.2.2.2.2.2.2.2.2.2.2.2.1 i c) (hv : c.2.1 < 8) (q : McV) : ok_X10_does d (3 * nI i) ∧
    ((f_X9_faultOfCommand q v (nI c.2.1) (nI c.2.2.1) (nI c.2.2.2.1) ≠ 0 ∧ ∃ th : Int32, th ≠ 0 ∧ f_X10_does d (3 * nI i) = (0, mo5 d th)) ∨
     (f_X9_faultOfCommand q v (nI c.2.1) (nI c.2.2.1) (nI c.2.2.2.1) = 0 ∧ ∃ (s' : Nat → Int32) (t : Int32), f_X10_does d (3 * nI i) = (t, mo5 (mo0 d s') 0) ∧ RS (B + 240) (f_X9_carryOut q v (nI c.2.1) (nI c.2.2.1) (nI c.2.2.2.1)) s')) := by
  obtain ⟨b, k, x, y, E⟩ := c
  obtain ⟨r1, r2, r3⟩ := hr
  have r1 : d.2.2.2.2.2.2.2.2.2.2.2.2.2.1 (3 * i) = nI (pcd k) := r1
  have r2 : d.2.2.2.2.2.2.2.2.2.2.2.2.2.1 (3 * i + 1) = nI x := r2
  have r3 : k ≤ 5 → d.2.2.2.2.2.2.2.2.2.2.2.2.2.1 (3 * i + 2) = nI y := r3
  have hv : k < 8 := hv
  show ok_X10_does d (3 * nI i) ∧ ((f_X9_faultOfCommand q v (nI k) (nI x) (nI y) ≠ 0 ∧ ∃ th : Int32, th ≠ 0 ∧ f_X10_does d (3 * nI i) = (0, mo5 d th)) ∨
     (f_X9_faultOfCommand q v (nI k) (nI x) (nI y) = 0 ∧ ∃ (s' : Nat → Int32) (t : Int32), f_X10_does d (3 * nI i) = (t, mo5 (mo0 d s') 0) ∧ RS (B + 240) (f_X9_carryOut q v (nI k) (nI x) (nI y)) s'))
  have v0 : vp_in (nI (3 * i)) 93 := vp_in_nI (by omega) (by decide)
  have v1 : vp_in (nI (3 * i) + 1) 93 := by rw [nI_1]; exact vp_in_nI (by omega) (by decide)
  have v2 : vp_in (nI (3 * i) + 2) 93 := by rw [q_2, nI_add]; exact vp_in_nI (by omega) (by decide)
  have e0 : (nI (3 * i)).toNatClampNeg = 3 * i := nI_clamp (by omega)
  have e1 : (nI (3 * i) + 1).toNatClampNeg = 3 * i + 1 := by rw [nI_1]; exact nI_clamp (by omega)
  have e2 : (nI (3 * i) + 2).toNatClampNeg = 3 * i + 2 := by rw [q_2, nI_add]; exact nI_clamp (by omega)
  have w1 : d.2.2.2.2.2.2.2.2.2.2.2.2.2.1 (nI (3 * i)).toNatClampNeg = nI (pcd k) := by rw [e0]; exact r1
  have w2 : d.2.2.2.2.2.2.2.2.2.2.2.2.2.1 (nI (3 * i) + 1).toNatClampNeg = nI x := by rw [e1]; exact r2
  have w3 : k ≤ 5 → d.2.2.2.2.2.2.2.2.2.2.2.2.2.1 (nI (3 * i) + 2).toNatClampNeg = nI y := fun w => by rw [e2]; exact r3 w
  rw [q_3, pk_mul]
  rcases (show k = 0 ∨ k = 1 ∨ k = 2 ∨ k = 3 ∨ k = 4 ∨ k = 5 ∨ k = 6 ∨ k = 7 by omega) with e | e | e | e | e | e | e | e
  · subst e
    obtain ⟨o, K⟩ := core_out (C_gives h (nI x) (nI y)) (by omega : B ≤ B + 240)
    obtain ⟨z1, z2⟩ := dz_0 d (nI (3 * i)) (nI x) (nI y) (w1.trans (by decide)) w2 (w3 (by decide))
    rw [z1, fc_0, cq_0]
    exact ⟨z2 ⟨v1, v2, v0, o⟩, K⟩
  · subst e
    obtain ⟨o, K⟩ := core_out (C_takes h (nI x) (nI y)) (by omega : B ≤ B + 240)
    obtain ⟨z1, z2⟩ := dz_1 d (nI (3 * i)) (nI x) (nI y) (w1.trans (by decide)) w2 (w3 (by decide))
    rw [z1, fc_1, cq_1]
    exact ⟨z2 ⟨v1, v2, v0, o⟩, K⟩
  · subst e
    obtain ⟨o, K⟩ := core_out (C_tries h hB (nI x) (nI y)) (by omega : B + 240 ≤ B + 240)
    obtain ⟨z1, z2⟩ := dz_2 d (nI (3 * i)) (nI x) (nI y) (w1.trans (by decide)) w2 (w3 (by decide))
    rw [z1, fc_2, cq_2]
    exact ⟨z2 ⟨v1, v2, v0, o⟩, K⟩
  · subst e
    obtain ⟨o, K⟩ := core_out (C_excepts h (by omega) (nI x) (nI y) 1 (Or.inr rfl)) (by omega : B ≤ B + 240)
    obtain ⟨z1, z2⟩ := dz_3 d (nI (3 * i)) (nI x) (nI y) (w1.trans (by decide)) w2 (w3 (by decide))
    rw [z1, fc_3, cq_3]
    exact ⟨z2 ⟨v1, v2, v0, o⟩, K⟩
  · subst e
    obtain ⟨o, K⟩ := core_out (C_excepts h (by omega) (nI x) (nI y) 0 (Or.inl rfl)) (by omega : B ≤ B + 240)
    obtain ⟨z1, z2⟩ := dz_4 d (nI (3 * i)) (nI x) (nI y) (w1.trans (by decide)) w2 (w3 (by decide))
    rw [z1, fc_4, cq_4]
    exact ⟨z2 ⟨v1, v2, v0, o⟩, K⟩
  · subst e
    obtain ⟨o, K⟩ := core_out ((C_lifts h (nI x) (nI y)).1) (by omega : B ≤ B + 240)
    obtain ⟨z1, z2⟩ := dz_5 d (nI (3 * i)) (nI x) (nI y) (w1.trans (by decide)) w2 (w3 (by decide))
    rw [z1, fc_5, cq_5]
    exact ⟨z2 ⟨v1, v2, v0, o⟩, K⟩
  · subst e
    obtain ⟨o, K⟩ := core_out (C_moons h (nI x)) (by omega : B ≤ B + 240)
    obtain ⟨z1, z2⟩ := dz_6 d (nI (3 * i)) (nI x) (nI y) (w1.trans (by decide)) w2
    rw [z1, fc_6, cq_6]
    exact ⟨z2 ⟨v1, v2, v0, o⟩, K⟩
  · subst e
    obtain ⟨o, K⟩ := core_out (C_waits h hB (nI x)) (by omega : B + 240 ≤ B + 240)
    obtain ⟨z1, z2⟩ := dz_7 d (nI (3 * i)) (nI x) (nI y) (w1.trans (by decide)) w2
    rw [z1, fc_7, cq_7]
    exact ⟨z2 ⟨v1, v2, v0, o⟩, K⟩
