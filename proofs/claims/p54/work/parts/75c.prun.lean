/-! ===== running ===== -/
/-- the reference's state while a program runs: s changed, nothing thrown, the last answer -/
def eD (D : MoV) (s : Nat → Int32) (t : Int32) : MoV := mo8 (mo5 (mo0 D s) 0) t
theorem eD16 (D : MoV) (s : Nat → Int32) (t : Int32) : (eD D s t).2.2.2.2.2.2.2.2.2.2.2.2.2.2.2.2 = D.2.2.2.2.2.2.2.2.2.2.2.2.2.2.2.2 := by
  obtain ⟨a0, a1, a2, a3, a4, a5, a6, a7, a8, a9, a10, a11, a12, a13, a14, a15, a16⟩ := D
  unfold eD
  exact (rfl : _ = a16)
theorem eD0 (D : MoV) (s : Nat → Int32) (t : Int32) : (mo5 (eD D s t) 0).1 = s := by
  obtain ⟨a0, a1, a2, a3, a4, a5, a6, a7, a8, a9, a10, a11, a12, a13, a14, a15, a16⟩ := D
  unfold eD
  exact (rfl : _ = s)
theorem eD13 (D : MoV) (s : Nat → Int32) (t : Int32) : (mo5 (eD D s t) 0).2.2.2.2.2.2.2.2.2.2.2.2.2.1 = D.2.2.2.2.2.2.2.2.2.2.2.2.2.1 := by
  obtain ⟨a0, a1, a2, a3, a4, a5, a6, a7, a8, a9, a10, a11, a12, a13, a14, a15, a16⟩ := D
  unfold eD
  exact (rfl : _ = a13)
theorem eDg5 (D : MoV) (s s1 : Nat → Int32) (t : Int32) : (mo5 (mo0 (mo5 (eD D s t) 0) s1) 0).2.2.2.2.2.1 = 0 := by
  obtain ⟨a0, a1, a2, a3, a4, a5, a6, a7, a8, a9, a10, a11, a12, a13, a14, a15, a16⟩ := D
  unfold eD
  exact (rfl : _ = (0 : Int32))
theorem eDs5 (D : MoV) (s : Nat → Int32) (t th : Int32) : (mo5 (mo5 (eD D s t) 0) th).2.2.2.2.2.1 = th := by
  obtain ⟨a0, a1, a2, a3, a4, a5, a6, a7, a8, a9, a10, a11, a12, a13, a14, a15, a16⟩ := D
  unfold eD
  exact (rfl : _ = th)
theorem eDs1 (D : MoV) (s : Nat → Int32) (t th : Int32) : (mo5 (mo5 (eD D s t) 0) th).2.1 = D.2.1 := by
  obtain ⟨a0, a1, a2, a3, a4, a5, a6, a7, a8, a9, a10, a11, a12, a13, a14, a15, a16⟩ := D
  unfold eD
  exact (rfl : _ = a1)
theorem eDs0 (D : MoV) (s : Nat → Int32) (t th : Int32) : (mo5 (mo5 (eD D s t) 0) th).1 = s := by
  obtain ⟨a0, a1, a2, a3, a4, a5, a6, a7, a8, a9, a10, a11, a12, a13, a14, a15, a16⟩ := D
  unfold eD
  exact (rfl : _ = s)
theorem eDgo (D : MoV) (s s1 : Nat → Int32) (t t1 : Int32) : mo8 (mo5 (mo0 (mo5 (eD D s t) 0) s1) 0) t1 = eD D s1 t1 := by
  obtain ⟨a0, a1, a2, a3, a4, a5, a6, a7, a8, a9, a10, a11, a12, a13, a14, a15, a16⟩ := D
  unfold eD
  exact (rfl : _ = (s1, a1, a2, a3, a4, (0 : Int32), a6, a7, t1, a9, a10, a11, a12, a13, a14, a15, a16))
theorem eDst (D : MoV) (s r : Nat → Int32) (t th c j z : Int32) : mo8 (mo7 (mo5 (mo0 (mo5 (mo5 (eD D s t) 0) th) r) c) j) z = mo8 (mo7 (mo5 (mo0 D r) c) j) z := by
  obtain ⟨a0, a1, a2, a3, a4, a5, a6, a7, a8, a9, a10, a11, a12, a13, a14, a15, a16⟩ := D
  unfold eD
  exact (rfl : _ = (r, a1, a2, a3, a4, c, a6, j, z, a9, a10, a11, a12, a13, a14, a15, a16))
theorem ex_end (d : MoV) (u3 : Int32 × MoV) (u6 u10 : MoV) (n : Nat) {x : Int32} {e : MoV} (h : e.2.2.2.2.2.2.2.2.2.2.2.2.2.2.2.2 ≤ x) : lp_X10_execute_43 d u3 u6 u10 (n + 1) x e = f_X10_ends e e.2.2.2.2.2.2.2.2.2.2.2.2.2.2.2.2 ∧ (ok_X10_ends e e.2.2.2.2.2.2.2.2.2.2.2.2.2.2.2.2 → okl_lp_X10_execute_43 d u3 u6 u10 (n + 1) x e) := by
  simp only [lp_X10_execute_43, okl_lp_X10_execute_43, if_pos h]
  exact ⟨trivial, fun o => ⟨o, trivial⟩⟩
theorem ex_go (d : MoV) (u3 : Int32 × MoV) (u6 u10 : MoV) (n : Nat) {x t : Int32} {e e1 : MoV} (h : ¬ e.2.2.2.2.2.2.2.2.2.2.2.2.2.2.2.2 ≤ x) (hd : f_X10_does (mo5 e 0) (3 * x) = (t, e1)) (ho : ok_X10_does (mo5 e 0) (3 * x)) (h5 : e1.2.2.2.2.2.1 = 0) : lp_X10_execute_43 d u3 u6 u10 (n + 1) x e = lp_X10_execute_43 d u3 u6 u10 n (x + 1) (mo8 e1 t) ∧ (okl_lp_X10_execute_43 d u3 u6 u10 n (x + 1) (mo8 e1 t) → okl_lp_X10_execute_43 d u3 u6 u10 (n + 1) x e) := by
  simp only [lp_X10_execute_43, okl_lp_X10_execute_43, if_neg h, hd, if_pos h5]
  exact ⟨trivial, fun o => ⟨ho, o⟩⟩
theorem ex_stop (d : MoV) (u3 : Int32 × MoV) (u6 u10 : MoV) (n : Nat) {x t : Int32} {e e1 : MoV} (h : ¬ e.2.2.2.2.2.2.2.2.2.2.2.2.2.2.2.2 ≤ x) (hd : f_X10_does (mo5 e 0) (3 * x) = (t, e1)) (ho : ok_X10_does (mo5 e 0) (3 * x)) (h5 : ¬ e1.2.2.2.2.2.1 = 0) (hc : ok_X10_copies 249 e1.2.1 0 249 e1.1 0) : lp_X10_execute_43 d u3 u6 u10 (n + 1) x e = (0, mo8 (mo7 (mo5 (mo0 e1 (f_X10_copies 249 e1.2.1 0 249 e1.1 0)) 2) x) t) ∧ okl_lp_X10_execute_43 d u3 u6 u10 (n + 1) x e := by
  simp only [lp_X10_execute_43, okl_lp_X10_execute_43, if_neg h, hd, if_neg h5]
  exact ⟨trivial, ho, hc, trivial⟩
theorem rc_end (q : McV) (v : StV) (pg : PrV) (tb : SbV) (x : Int32) (u2 : PrV) (n : Nat) {x2 : Int32} (vL : StV) (pgL : PrV) (h : x ≤ x2) : lp_X9_runCommands_9 q v pg tb x u2 (n + 1) x2 vL pgL = (-1, vL, pgL) ∧ okl_lp_X9_runCommands_9 q v pg tb x u2 (n + 1) x2 vL pgL := by
  simp only [lp_X9_runCommands_9, okl_lp_X9_runCommands_9, if_pos h, and_self]
theorem rc_stop (q : McV) (v : StV) (pg : PrV) (tb : SbV) (x : Int32) (u2 : PrV) (n : Nat) {x2 b p vb y1 y2 : Int32} {vL : StV} {pgL : PrV} (h : ¬ x ≤ x2) (hc : f_X6_readCommand pgL tb = (b, p, vb, y1, y2)) (ho : ok_X6_readCommand pgL tb) (hF : ¬ f_X9_faultOfCommand q vL vb y1 y2 = 0) : lp_X9_runCommands_9 q v pg tb x u2 (n + 1) x2 vL pgL = (x2, vL, (p, vb, y1, y2)) ∧ okl_lp_X9_runCommands_9 q v pg tb x u2 (n + 1) x2 vL pgL := by
  simp only [lp_X9_runCommands_9, okl_lp_X9_runCommands_9, if_neg h, hc, if_neg hF]
  refine ⟨trivial, ho, fun u hu => ?_⟩
  subst hu
  exact (if_neg hF).mpr trivial
theorem rc_go (q : McV) (v : StV) (pg : PrV) (tb : SbV) (x : Int32) (u2 : PrV) (n : Nat) {x2 b p vb y1 y2 : Int32} {vL : StV} {pgL : PrV} {S : Int32 × PrV} (h : ¬ x ≤ x2) (hc : f_X6_readCommand pgL tb = (b, p, vb, y1, y2)) (ho : ok_X6_readCommand pgL tb) (hF : f_X9_faultOfCommand q vL vb y1 y2 = 0) (hs : f_X6_readSign (p, vb, y1, y2) tb 59 = S) (h2 : ok_X6_readSign (p, vb, y1, y2) tb 59) : lp_X9_runCommands_9 q v pg tb x u2 (n + 1) x2 vL pgL = lp_X9_runCommands_9 q v pg tb x u2 n (x2 + 1) (f_X9_carryOut q vL vb y1 y2) S.2 ∧ (okl_lp_X9_runCommands_9 q v pg tb x u2 n (x2 + 1) (f_X9_carryOut q vL vb y1 y2) S.2 → okl_lp_X9_runCommands_9 q v pg tb x u2 (n + 1) x2 vL pgL) := by
  subst hs
  simp only [lp_X9_runCommands_9, okl_lp_X9_runCommands_9, if_neg h, hc, if_pos hF]
  refine ⟨trivial, fun o => ⟨ho, fun u hu => ?_⟩⟩
  subst hu
  refine (if_pos hF).mpr ?_
  intro u10 h10
  subst h10
  refine ⟨h2, fun u13 h13 => ?_⟩
  subst h13
  exact o
set_option maxHeartbeats 4000000 in
set_option linter.constructorNameAsVariable false in
theorem P_run {l : List Nat} {sb : SbV} (hT : TX sb l) (hl : l.length ≤ 60) {B : Nat} (hB : B < 2 ^ 28) (q : McV) (v0 : StV) (pg0 u2 : PrV) (D : MoV) (dd : MoV) (u3 : Int32 × MoV) (u6 u10 : MoV) {N : Nat} (g0 : Nat) (hN : N ≤ 30) (hD : D.2.2.2.2.2.2.2.2.2.2.2.2.2.2.2.2 = nI N)
    (hg : ∀ i, i < N → pgood l D.2.2.2.2.2.2.2.2.2.2.2.2.2.1 i ∧ (i + 1 < N → l.getD (pcm (fun i => l.getD i 0) (pps (fun i => l.getD i 0) i)).2.2.2.2 0 = 59)) : ∀ (n i : Nat) (v : StV) (pg : PrV) (s : Nat → Int32) (t : Int32), i ≤ N → N < n + i → RS (B + 240 * i) v s → (i < N → pg.1 = nI (pps (fun i => l.getD i 0) i)) →
    okl_lp_X9_runCommands_9 q v0 pg0 sb (nI N) u2 n (nI i) v pg ∧
    ((okl_lp_X10_execute_43 dd u3 u6 u10 (n + g0) (nI i) (eD D s t) ∧ ∃ (pg' : PrV) (j : Nat) (v' : StV) (s' : Nat → Int32) (t' : Int32), j < N ∧ lp_X9_runCommands_9 q v0 pg0 sb (nI N) u2 n (nI i) v pg = (nI j, v', pg') ∧ lp_X10_execute_43 dd u3 u6 u10 (n + g0) (nI i) (eD D s t) = (0, mo8 (mo7 (mo5 (mo0 D (f_X10_copies 249 D.2.1 0 249 s' 0)) 2) (nI j)) t')) ∨
     (∃ (pg' : PrV) (v' : StV) (s' : Nat → Int32) (t' : Int32), (ok_X10_ends (eD D s' t') (nI N) → okl_lp_X10_execute_43 dd u3 u6 u10 (n + g0) (nI i) (eD D s t)) ∧ lp_X9_runCommands_9 q v0 pg0 sb (nI N) u2 n (nI i) v pg = (-1, v', pg') ∧ lp_X10_execute_43 dd u3 u6 u10 (n + g0) (nI i) (eD D s t) = f_X10_ends (eD D s' t') (nI N) ∧ RS (B + 240 * N) v' s')) := by
  intro n
  induction n with
  | zero => intro i v pg s t h1 h2; omega
  | succ n ih =>
    intro i v pg s t h1 h2 hS hp
    rw [show n + 1 + g0 = n + g0 + 1 by omega]
    have hD' : (eD D s t).2.2.2.2.2.2.2.2.2.2.2.2.2.2.2.2 = nI N := (eD16 D s t).trans hD
    by_cases e : i = N
    · subst e
      obtain ⟨a1, a2⟩ := rc_end q v0 pg0 sb (nI i) u2 n (x2 := nI i) v pg (nI_le (Nat.le_refl i) (by omega))
      obtain ⟨b1, b2⟩ := ex_end dd u3 u6 u10 (n + g0) (x := nI i) (e := eD D s t) (by rw [hD']; exact nI_le (Nat.le_refl i) (by omega))
      rw [hD'] at b1 b2
      exact ⟨a2, Or.inr ⟨pg, v, s, t, b2, a1, b1, hS⟩⟩
    · have hlt : i < N := by omega
      obtain ⟨⟨g1, g2⟩, g3⟩ := hg i hlt
      obtain ⟨c1, c2, c3⟩ := pcm_pos (fun i => l.getD i 0) (pps (fun i => l.getD i 0) i)
      obtain ⟨f1, f2, f3⟩ := c3 g1
      have hpl : pps (fun i => l.getD i 0) i < l.length := by
        apply Decidable.byContradiction
        intro w
        exact f2 (pg_out (by omega))
      obtain ⟨p1, pr⟩ := pg
      have hp1 : p1 = nI (pps (fun i => l.getD i 0) i) := hp hlt
      subst hp1
      obtain ⟨⟨q', x1, x2, x3⟩, x4⟩ := x_cmd hT pr (p := pps (fun i => l.getD i 0) i) (by omega)
      have x3 := x3 g1
      subst x3
      have hpn : pps (fun i => l.getD i 0) (i + 1) = (pcm (fun i => l.getD i 0) (pps (fun i => l.getD i 0) i)).2.2.2.2 + 1 := rfl
      obtain ⟨d1, d2⟩ := P_does (d := mo5 (eD D s t) 0) (v := v) (by rw [eD0 D s t]; exact hS) (by omega) (i := i) (by omega) (by rw [eD13 D s t]; exact g2) f1 q
      generalize pcm (fun i => l.getD i 0) (pps (fun i => l.getD i 0) i) = C at c1 c2 f1 f3 x1 g1 g3 hpn d2 ⊢
      obtain ⟨cb, k1, y1, y2, E⟩ := C
      have c1 : pps (fun i => l.getD i 0) i ≤ E := c1
      have c2 : E ≤ pps (fun i => l.getD i 0) i + 10 := c2
      have hpn : pps (fun i => l.getD i 0) (i + 1) = E + 1 := hpn
      have g3 : i + 1 < N → l.getD E 0 = 59 := g3
      have x1 : f_X6_readCommand (nI (pps (fun i => l.getD i 0) i), pr) sb = ((if cb = true then 1 else 0), nI E, nI k1, nI y1, nI y2) := x1
      obtain ⟨t1, t2⟩ := x_rs hT (nI k1, nI y1, nI y2) (p := E) (c := 59) (by omega) (by decide)
      rw [← q_59] at t1 t2
      have nle : ¬ nI N ≤ nI i := nI_ge hlt (by omega)
      have nle' : ¬ (eD D s t).2.2.2.2.2.2.2.2.2.2.2.2.2.2.2.2 ≤ nI i := by rw [hD']; exact nle
      rcases d2 with ⟨hF, th, hth, hR⟩ | ⟨hF, s', t', hR, hS'⟩
      · have hF : ¬ f_X9_faultOfCommand q v (nI k1) (nI y1) (nI y2) = 0 := hF
        obtain ⟨a1, a2⟩ := rc_stop q v0 pg0 sb (nI N) u2 n nle x1 x4 hF
        have cp := (m_copies (fn := 249) (gn := 249) (i := 0) (j := 0) D.2.1 s (by decide) (by decide) (by decide) (by decide)).2
        have cp : ok_X10_copies 249 D.2.1 0 249 s 0 := cp
        obtain ⟨b1, b2⟩ := ex_stop dd u3 u6 u10 (n + g0) nle' hR d1 (by rw [eDs5 D s t th]; exact hth) (by rw [eDs1 D s t th, eDs0 D s t th]; exact cp)
        rw [eDs1 D s t th, eDs0 D s t th, eDst D s (f_X10_copies 249 D.2.1 0 249 s 0) t th 2 (nI i) 0] at b1
        exact ⟨a2, Or.inl ⟨b2, _, i, v, s, 0, hlt, a1, b1⟩⟩
      · have hF : f_X9_faultOfCommand q v (nI k1) (nI y1) (nI y2) = 0 := hF
        have hS' : RS (B + 240 * (i + 1)) (f_X9_carryOut q v (nI k1) (nI y1) (nI y2)) s' := by
          rw [show B + 240 * (i + 1) = B + 240 * i + 240 by omega]
          exact hS'
        obtain ⟨a1, a2⟩ := rc_go q v0 pg0 sb (nI N) u2 n nle x1 x4 hF rfl t2
        obtain ⟨b1, b2⟩ := ex_go dd u3 u6 u10 (n + g0) nle' hR d1 (eDg5 D s s' t)
        rw [eDgo D s s' t t', nI_1] at b1 b2
        rw [nI_1] at a1 a2
        obtain ⟨i1, i2⟩ := ih (i + 1) (f_X9_carryOut q v (nI k1) (nI y1) (nI y2)) (f_X6_readSign (nI E, nI k1, nI y1, nI y2) sb 59).2 s' t' (by omega) (by omega) hS' (fun w => by
          rw [t1, if_pos (g3 w), hpn])
        refine ⟨a2 i1, ?_⟩
        rw [a1, b1]
        rcases i2 with ⟨o1, r1⟩ | ⟨pg', v', s'', t'', o1, r1⟩
        · exact Or.inl ⟨b2 o1, r1⟩
        · exact Or.inr ⟨pg', v', s'', t'', fun o => b2 (o1 o), r1⟩

