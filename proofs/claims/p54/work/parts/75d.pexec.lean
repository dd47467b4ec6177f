/-! ===== execute ===== -/
theorem RW.tup {B : Nat} {q : McV} {v sn : StV} {hi : HiV} {hs : Nat → StV} {tb nt : SbV} {a0 a1 a2 a3 a10 a12 a13 : Nat → Int32} {a4 a5 a6 a7 a8 a9 a11 a14 a15 a16 : Int32} (h0 : RS B v a0) (h1 : RH B hi hs a3 a4) (h2 : RSN B q.1 sn a9 a2) (h3 : q.2.1 = a6 ∧ RER q.2.1) (h4 : q.2.2 = a7 ∧ RER q.2.2) (h5 : RT tb a12 a14) (h6 : RN nt a10 a11) :
    RW B q v sn hi hs tb nt (a0, a1, a2, a3, a4, a5, a6, a7, a8, a9, a10, a11, a12, a13, a14, a15, a16) := ⟨h0, h1, h2, h3, h4, h5, h6⟩
theorem xe_bad {d e1 U : MoV} (hP : f_X10_isProgram d = (0, e1)) (hU : f_X10_isThrown (mo14 e1 0) 1 1 = U) : f_X10_execute d = (0, mo6 U U.2.2.2.2.2.2.2.2.2.2.2.2.2.2.2.1) ∧ (ok_X10_isProgram d → ok_X10_execute d) := by
  subst hU
  simp only [f_X10_execute, ok_X10_execute, hP, ite_true]
  exact ⟨trivial, fun a => ⟨a, trivial⟩⟩
theorem xe_good {d e1 U K : MoV} (hP : f_X10_isProgram d = (1, e1)) (hU : f_X10_isThrown (mo14 e1 0) 0 1 = U) (hK : f_X10_keeps U = K) : f_X10_execute d = lp_X10_execute_43 d (1, e1) U K 62 0 K ∧ (ok_X10_isProgram d → ok_X10_keeps U → okl_lp_X10_execute_43 d (1, e1) U K 62 0 K → ok_X10_execute d) := by
  subst hK
  subst hU
  have y0 : ((1 : Int32) = 0) = False := eq_false (by decide)
  simp only [f_X10_execute, ok_X10_execute, hP, y0, ite_false]
  exact ⟨trivial, fun a b c => ⟨a, b, c⟩⟩
theorem xc_bad {q : McV} {v : StV} {hi : HiV} {hs : Nat → StV} {pg pg' : PrV} {tb : SbV} (h : f_X6_countCommands pg tb = (-1, pg')) (ho : ok_X6_countCommands pg tb) (hk : ok_J4_setLength_d00df tb 0) : f_X9_execute q v hi hs pg tb = ("java/lang/IllegalArgumentException", 0, (q.1, pg'.1, q.2.2), v, hi, hs, pg', f_J4_setLength_d00df tb 0) ∧ ok_X9_execute q v hi hs pg tb := by
  constructor
  · unfold f_X9_execute
    rw [h]
    exact if_pos rfl
  · unfold ok_X9_execute
    refine ⟨ho, fun u hu => ?_⟩
    subst hu
    rw [h]
    exact (if_pos rfl).mpr ⟨⟨hk, trivial⟩, trivial⟩
theorem xc_good {q : McV} {v : StV} {hi : HiV} {hs : Nat → StV} {pg pg' : PrV} {tb : SbV} {N : Nat} (hN : N ≤ 30) (h : f_X6_countCommands pg tb = (nI N, pg')) (ho : ok_X6_countCommands pg tb) (hk : ok_J4_setLength_d00df tb 0) {X : Int32 × StV × PrV} (hX : lp_X9_runCommands_9 q v pg' tb (nI N) (f_X6_rewind pg' tb) (N + 1) (nI 0) v (f_X6_rewind pg' tb) = X) (hl : okl_lp_X9_runCommands_9 q v pg' tb (nI N) (f_X6_rewind pg' tb) (N + 1) (nI 0) v (f_X6_rewind pg' tb)) :
    f_X9_execute q v hi hs pg tb = (if X.1 = -1 then ("", nI N, q, X.2.1, f_X4_keepDraft hi, f_X4_draft hi hs v, X.2.2, f_J4_setLength_d00df tb 0) else ("java/lang/IllegalStateException", 0, (q.1, q.2.1, X.1), f_X4_dropDraft hi (f_X4_draft hi hs v) X.2.1, hi, f_X4_draft hi hs v, X.2.2, f_J4_setLength_d00df tb 0)) ∧ ok_X9_execute q v hi hs pg tb := by
  have nm : ¬ nI N = (-1 : Int32) := fun w => (q_neM (by omega)).mp w
  have fu : (((nI N)).toInt - ((0 : Int32)).toInt).toNat + 1 = N + 1 := by
    rw [nI_toInt (show N < 2 ^ 31 by omega), show (0 : Int32).toInt = 0 from rfl]; omega
  have eR : f_X9_runCommands q v pg' tb (nI N) = X := by
    unfold f_X9_runCommands
    rw [fu, ← hX, q_0]
  constructor
  · unfold f_X9_execute
    rw [h]
    show (if nI N = (-1 : Int32) then _ else _) = _
    rw [if_neg nm, eR]
    rfl
  · unfold ok_X9_execute
    refine ⟨ho, fun u hu => ?_⟩
    subst hu
    rw [h]
    refine (if_neg nm).mpr (fun u6 h6 => ⟨?_, fun u9 h9 => ⟨⟨hk, trivial⟩, trivial⟩⟩)
    show ok_X9_runCommands q v pg' tb (nI N)
    unfold ok_X9_runCommands
    intro u2 hu2
    subst hu2
    rw [fu, q_0]
    exact hl
set_option maxHeartbeats 4000000 in
set_option maxRecDepth 100000 in
theorem R_execute {B : Nat} {q : McV} {v sn : StV} {hi : HiV} {hs : Nat → StV} {tb nt : SbV} {d : MoV} (h : RW B q v sn hi hs tb nt d) (hB : B < 2 ^ 28) (pg : PrV) :
    (ok_X10_execute d ∧ ok_X9_execute q v hi hs pg tb) ∧ RC ["java/lang/IllegalArgumentException", "java/lang/IllegalStateException"] (f_X9_execute q v hi hs pg tb).1 (f_X9_execute q v hi hs pg tb).2.1 (f_X10_execute d).1 (f_X10_execute d).2.2.2.2.2.2.1 ∧
    RW (B + 7200) (f_X9_execute q v hi hs pg tb).2.2.1 (f_X9_execute q v hi hs pg tb).2.2.2.1 sn (f_X9_execute q v hi hs pg tb).2.2.2.2.1 (f_X9_execute q v hi hs pg tb).2.2.2.2.2.1 (f_X9_execute q v hi hs pg tb).2.2.2.2.2.2.2 nt (f_X10_execute d).2 := by
  obtain ⟨a0, a1, a2, a3, a4, a5, a6, a7, a8, a9, a10, a11, a12, a13, a14, a15, a16⟩ := d
  obtain ⟨r1, r2, r3, r4, r5, r6, r7⟩ := id h
  have r1 : RS B v a0 := r1
  have r2 : RH B hi hs a3 a4 := r2
  have r3 : RSN B q.1 sn a9 a2 := r3
  have r4 : q.2.1 = a6 ∧ RER q.2.1 := r4
  have r5 : q.2.2 = a7 ∧ RER q.2.2 := r5
  have r7 : RN nt a10 a11 := r7
  obtain ⟨l, hT, hM, hl, hc⟩ := r6
  have hM : MX a12 a14 l := hM
  obtain ⟨k1, k2⟩ := tx_clear hT
  have hclr : ∀ f, RT (f_J4_setLength_d00df tb 0) f 0 := fun f => ⟨[], k2, ⟨rfl, fun i hi => absurd hi (Nat.not_lt_zero i)⟩, by decide, fun c hc => absurd hc List.not_mem_nil⟩
  obtain ⟨p1, p2, pg', m, x, E, P⟩ := P_prog hT hl pg (a0, a1, a2, a3, a4, a5, a6, a7, a8, a9, a10, a11, a12, a13, a14, a15, a16) hM
  rcases P with ⟨e1, e2, e3, e4⟩ | ⟨N, n1, n2, e1, e4, hg⟩
  · have e4 : f_X10_isProgram (a0, a1, a2, a3, a4, a5, a6, a7, a8, a9, a10, a11, a12, a13, a14, a15, a16) = (0, (a0, a1, a2, a3, a4, a5, a6, a7, a8, a9, a10, a11, a12, m, a14, (nI E), x)) := e4
    obtain ⟨h10, o10⟩ := xe_bad (U := (a0, a1, a2, a3, a4, (1 : Int32), a6, a7, a8, a9, a10, a11, a12, m, (0 : Int32), (nI E), x)) e4 rfl
    have h10 : f_X10_execute (a0, a1, a2, a3, a4, a5, a6, a7, a8, a9, a10, a11, a12, a13, a14, a15, a16) = (0, (a0, a1, a2, a3, a4, (1 : Int32), (nI E), a7, a8, a9, a10, a11, a12, m, (0 : Int32), (nI E), x)) := h10
    obtain ⟨h9, o9⟩ := xc_bad (q := q) (v := v) (hi := hi) (hs := hs) e1 p1 k1
    rw [h9, h10]
    exact ⟨⟨o10 p2, o9⟩, RC.x1 (by decide), RW.tup (r1.mono (by omega)) (r2.mono (by omega)) (r3.mono (by omega)) ⟨e2, Or.inr ⟨E, e3, e2⟩⟩ r5 (hclr _) r7⟩
  · have e4 : f_X10_isProgram (a0, a1, a2, a3, a4, a5, a6, a7, a8, a9, a10, a11, a12, a13, a14, a15, a16) = (1, (a0, a1, a2, a3, a4, a5, a6, a7, a8, a9, a10, a11, a12, m, a14, (nI E), (nI N))) := e4
    obtain ⟨K1, K2⟩ := m_keeps (a0, a1, a2, a3, a4, (0 : Int32), a6, a7, a8, a9, a10, a11, a12, m, (0 : Int32), (nI E), (nI N))
    have K1 : f_X10_keeps (a0, a1, a2, a3, a4, (0 : Int32), a6, a7, a8, a9, a10, a11, a12, m, (0 : Int32), (nI E), (nI N)) = (a0, (fun q => if q < 249 then a0 q else a1 q), a2, a3, a4, (0 : Int32), a6, a7, a8, a9, a10, a11, a12, m, (0 : Int32), (nI E), (nI N)) := K1
    obtain ⟨h10, o10⟩ := xe_good (U := (a0, a1, a2, a3, a4, (0 : Int32), a6, a7, a8, a9, a10, a11, a12, m, (0 : Int32), (nI E), (nI N))) e4 rfl K1
    have hw : ∀ j, j < 249 → (fun q => if q < 249 then a0 q else a1 q) j = a0 j := fun j hj => if_pos hj
    generalize (fun q => if q < 249 then a0 q else a1 q) = W at hw K1 h10 o10
    have eK : eD (a0, W, a2, a3, a4, (0 : Int32), a6, a7, a8, a9, a10, a11, a12, m, (0 : Int32), (nI E), (nI N)) a0 a8 = (a0, W, a2, a3, a4, (0 : Int32), a6, a7, a8, a9, a10, a11, a12, m, (0 : Int32), (nI E), (nI N)) := by unfold eD; rfl
    have fu2 : N + 1 + (61 - N) = 62 := by omega
    obtain ⟨o1, o2⟩ := P_run hT hl hB q v pg' (f_X6_rewind pg' tb) (a0, W, a2, a3, a4, (0 : Int32), a6, a7, a8, a9, a10, a11, a12, m, (0 : Int32), (nI E), (nI N)) (a0, a1, a2, a3, a4, a5, a6, a7, a8, a9, a10, a11, a12, a13, a14, a15, a16) (1, (a0, a1, a2, a3, a4, a5, a6, a7, a8, a9, a10, a11, a12, m, a14, (nI E), (nI N))) (a0, a1, a2, a3, a4, (0 : Int32), a6, a7, a8, a9, a10, a11, a12, m, (0 : Int32), (nI E), (nI N)) (a0, W, a2, a3, a4, (0 : Int32), a6, a7, a8, a9, a10, a11, a12, m, (0 : Int32), (nI E), (nI N)) (61 - N) n1 rfl hg (N + 1) 0 v (f_X6_rewind pg' tb) a0 a8 (by omega) (by omega) (r1.mono (by omega)) (fun _ => rfl)
    rw [fu2, eK] at o2
    rcases o2 with ⟨oo, pg2, j, v', s', t', hj, hL, hR⟩ | ⟨pg2, v', s', t', oo, hL, hR, hS⟩
    · have nj : ¬ nI j = (-1 : Int32) := fun w => (q_neM (by omega)).mp w
      obtain ⟨h9, o9⟩ := xc_good (hi := hi) (hs := hs) n1 e1 p1 k1 hL o1
      have h9 := h9.trans (if_neg nj)
      have hR : lp_X10_execute_43 (a0, a1, a2, a3, a4, a5, a6, a7, a8, a9, a10, a11, a12, a13, a14, a15, a16) (1, (a0, a1, a2, a3, a4, a5, a6, a7, a8, a9, a10, a11, a12, m, a14, (nI E), (nI N))) (a0, a1, a2, a3, a4, (0 : Int32), a6, a7, a8, a9, a10, a11, a12, m, (0 : Int32), (nI E), (nI N)) (a0, W, a2, a3, a4, (0 : Int32), a6, a7, a8, a9, a10, a11, a12, m, (0 : Int32), (nI E), (nI N)) 62 (nI 0) (a0, W, a2, a3, a4, (0 : Int32), a6, a7, a8, a9, a10, a11, a12, m, (0 : Int32), (nI E), (nI N)) = (0, (f_X10_copies 249 W 0 249 s' 0, W, a2, a3, a4, (2 : Int32), a6, (nI j), t', a9, a10, a11, a12, m, (0 : Int32), (nI E), (nI N))) := hR
      rw [q_0] at h10
      have h10 := h10.trans hR
      rw [h9, h10]
      have cp := (m_copies (fn := 249) (gn := 249) (i := 0) (j := 0) W s' (by decide) (by decide) (by decide) (by decide)).1
      have cp : f_X10_copies 249 W 0 249 s' 0 = _ := cp
      obtain ⟨k, xx, g1, g2, g3, g4, g5, g6⟩ := id r2
      have hx : hi.2.toNatClampNeg = xx := by rw [g4, nI_clamp (by omega)]
      refine ⟨⟨o10 p2 K2 oo, o9⟩, RC.x2 (by decide), RW.tup ?_ ?_ (r3.mono (by omega)) r4 ⟨rfl, Or.inr ⟨j, by omega, rfl⟩⟩ (hclr _) r7⟩
      · show RS (B + 7200) (f_X4_copy (va_up hs hi.2.toNatClampNeg (f_X4_copy v (hs hi.2.toNatClampNeg)) hi.2.toNatClampNeg) v') (f_X10_copies 249 W 0 249 s' 0)
        rw [va_up_self, cp]
        refine ((r1.copy v).copy v).mono (by omega) |>.congr (fun a ha => ?_)
        show (if 0 ≤ a ∧ a < 0 + 249 then W (0 + (a - 0)) else s' a) = a0 a
        rw [if_pos (by omega), show 0 + (a - 0) = a by omega, hw a ha]
      · refine ⟨k, xx, g1, g2, g3, g4, g5, fun i hi' => ?_⟩
        show RS (B + 7200) (va_up hs hi.2.toNatClampNeg (f_X4_copy v (hs hi.2.toNatClampNeg)) ((xx + 9 - k + i) % 9)) _
        rw [hx, va_up_ne _ _ (by omega)]
        exact (g6 i hi').mono (by omega)
    · obtain ⟨h9, o9⟩ := xc_good (hi := hi) (hs := hs) n1 e1 p1 k1 hL o1
      have h9 := h9.trans (if_pos rfl)
      rw [q_0] at h10
      have h10 := h10.trans hR
      have h' : RW B q v sn hi hs (f_J4_setLength_d00df tb 0) nt (a0, a1, a2, a3, a4, a5, a6, a7, t', a9, a10, a11, a12, m, (0 : Int32), (nI E), (nI N)) := RW.tup r1 r2 r3 r4 r5 (hclr _) r7
      have eG : eD (a0, W, a2, a3, a4, (0 : Int32), a6, a7, a8, a9, a10, a11, a12, m, (0 : Int32), (nI E), (nI N)) s' t' = mo5 (mo0 (mo1 (a0, a1, a2, a3, a4, a5, a6, a7, t', a9, a10, a11, a12, m, (0 : Int32), (nI E), (nI N)) W) s') 0 := by unfold eD; rfl
      rw [eG] at h10 oo
      obtain ⟨m1, m2, m3, m4⟩ := m_modify h' (by omega : B ≤ B + 7200) s' (nI N) (hS.mono (by omega)) W hw
      rw [h9, h10]
      exact ⟨⟨o10 p2 K2 (oo m1), o9⟩, Or.inl ⟨rfl, m3, m2.symm⟩, m4⟩
