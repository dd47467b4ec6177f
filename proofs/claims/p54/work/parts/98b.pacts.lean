/-! ===== an act ===== -/
def AP (dn B : Nat) (v sn : StV) (hi : HiV) (hs : Nat → StV) (nt : SbV) (r : Int32 × McV × StV × HiV × (Nat → StV) × PrV × SbV) : Prop := XS dn v hi hs r ∧ ∃ d1, RW (B + 7200) r.2.1 r.2.2.1 sn r.2.2.2.1 r.2.2.2.2.1 r.2.2.2.2.2.2 nt d1
theorem ws_xs {m dn B : Nat} {q : McV} {v sn : StV} {hi : HiV} {hs : Nat → StV} {pg : PrV} {tb nt : SbV} {r : Int32 × StV × HiV × (Nat → StV)} {P : Prop} (h0 : tb.2.2.2 = 0) (hm : m ≤ dn) (h : P ∧ WS dn v hi hs r ∧ ∃ d1, RW (B + 240) q r.2.1 sn r.2.2.1 r.2.2.2 tb nt d1) : (P ∧ True) ∧ AP m B v sn hi hs nt (r.1, q, r.2.1, r.2.2.1, r.2.2.2, pg, tb) := by
  obtain ⟨p, w, d1, x⟩ := h
  refine ⟨⟨p, trivial⟩, ⟨?_, h0⟩, d1, x.mono (by omega)⟩
  rcases w with ⟨i, i1, i4, e, e2⟩ | ⟨j, hj, e, e2, J⟩
  · exact Or.inl ⟨i, i1, i4, e, by rw [e2]⟩
  · exact Or.inr ⟨j, by omega, e, congrArg Prod.fst e2, congrArg Prod.snd e2, J.mono hm⟩
theorem ak {A P F : Prop} (hA : A) (h : P ∧ F) : (A ∧ P) ∧ F := ⟨⟨hA, h.1⟩, h.2⟩
theorem xs_ap {m B : Nat} {v sn : StV} {hi : HiV} {hs : Nat → StV} {nt : SbV} {P : Prop} {D : Int32 × McV × StV × HiV × (Nat → StV) × PrV × SbV} (h : P ∧ XS m v hi hs D ∧ ∃ d1, RW (B + 7200) D.2.1 D.2.2.1 sn D.2.2.2.1 D.2.2.2.2.1 D.2.2.2.2.2.2 nt d1) : (P ∧ True) ∧ AP m B v sn hi hs nt (D.1, D.2.1, D.2.2.1, D.2.2.2.1, D.2.2.2.2.1, D.2.2.2.2.2.1, D.2.2.2.2.2.2) := ⟨⟨h.1, trivial⟩, h.2⟩
theorem V_eDoor (q : McV) (v : StV) (x : Int32) : ok_L_exceptionDoor q v x := by
  have h : (f_X9_exceptionDoor q v x).1 = "" ∨ (f_X9_exceptionDoor q v x).1 = "java/util/NoSuchElementException" := by
    unfold f_X9_exceptionDoor f_X9_requireElement
    repeat' split
    all_goals first | exact Or.inl rfl | exact Or.inr rfl | contradiction
  unfold ok_L_exceptionDoor
  rcases h with g | g <;> rw [g]
  · rw [if_pos rfl]; trivial
  · rw [if_neg (by decide), if_pos rfl]; trivial
theorem V_eDay (q : McV) (v : StV) (x : Int32) : ok_L_exceptionDay q v x := by
  have h : (f_X9_exceptionDay q v x).1 = "" ∨ (f_X9_exceptionDay q v x).1 = "java/util/NoSuchElementException" := by
    unfold f_X9_exceptionDay f_X9_requireElement
    repeat' split
    all_goals first | exact Or.inl rfl | exact Or.inr rfl | contradiction
  unfold ok_L_exceptionDay
  rcases h with g | g <;> rw [g]
  · rw [if_pos rfl]; trivial
  · rw [if_neg (by decide), if_pos rfl]; trivial
theorem acts_ok {m B : Nat} {G : GG} (hL : scL G < 2 ^ 31) {q : McV} {v sn : StV} {hi : HiV} {hs : Nat → StV} {tb nt : SbV} {d : MoV} (hW : RW B q v sn hi hs tb nt d) (hJ : JS m v) (hB : B < 239000) (h0 : tb.2.2.2 = 0) (pg : PrV) {i : Nat} (hx : i < 1000) : ok_L_acts q v hi hs pg tb G (nI i) ∧ AP m B v sn hi hs nt (f_L_acts q v hi hs pg tb G (nI i)) := by
  obtain ⟨o0, z, hz, ez⟩ := in_ok hL (x := i) (n := 24) (by omega) (by decide) (by decide)
  obtain ⟨o1, a, ha, ea⟩ := in_ok hL (x := i + 1) (n := 8) (by omega) (by decide) (by decide)
  obtain ⟨o2, b, hb, eb⟩ := in_ok hL (x := i + 2) (n := 9) (by omega) (by decide) (by decide)
  obtain ⟨o3, c, hc, ec⟩ := in_ok hL (x := i + 3) (n := 100) (by omega) (by decide) (by decide)
  have ea : f_L_in G (nI (i + 1)) 8 = nI a := ea
  have eb : f_L_in G (nI (i + 2)) 9 = nI b := eb
  have ec : f_L_in G (nI (i + 3)) 100 = nI c := ec
  obtain ⟨t, c', ht, hc', hc2, e1, e2, e3, e4, -, ⟨ne, x0, x1, -⟩, -, -⟩ := id hW.1
  have td : f_X9_day q v = nI (t / 24) := c_today e1 (by omega)
  have cx : f_X9_exceptionCount q v = nI ne := x1
  unfold ok_L_acts f_L_acts
  simp only [forall_eq, nI_1, show nI i + 2 = nI (i + 2) from nI_add i 2, show nI i + 3 = nI (i + 3) from nI_add i 3, ea, eb, ec, td, cx, nI_add, show (1 : Int32) + nI c = nI (1 + c) from nI_add 1 c, show (23 : Int32) + nI b = nI (23 + b) from nI_add 23 b]
  refine ak o1 (ak o2 (ak o3 (ak o0 ?_)))
  generalize f_L_in G (nI i) 24 = w
  by_cases g0 : w = 0
  · rw [if_pos g0, if_pos g0]
    exact ws_xs h0 (by omega) (WS_addDoor hW hJ (by omega) _ _ _ _)
  rw [if_neg g0, if_neg g0]
  by_cases g1 : w = 1
  · rw [if_pos g1, if_pos g1]
    exact ws_xs h0 (by omega) (WS_setRule hW hJ (by omega) _ _ _ _ _)
  rw [if_neg g1, if_neg g1]
  by_cases g2 : w = 2
  · rw [if_pos g2, if_pos g2]
    exact ws_xs h0 (by omega) (WS_setRule hW hJ (by omega) _ _ _ _ _)
  rw [if_neg g2, if_neg g2]
  by_cases g3 : w = 3
  · rw [if_pos g3, if_pos g3]
    by_cases p : nI c - nI c / (2 : Int32) * (2 : Int32) = 0
    · rw [if_pos p, if_pos p]
      exact ws_xs h0 (by omega) (WS_addException hW hJ (by omega) _ _ 1 (Or.inr rfl))
    · rw [if_neg p, if_neg p]
      exact ws_xs h0 (by omega) (WS_addException hW hJ (by omega) _ _ 0 (Or.inl rfl))
  rw [if_neg g3, if_neg g3]
  by_cases g4 : w = 4
  · rw [if_pos g4, if_pos g4]
    by_cases p : nI c - nI c / (2 : Int32) * (2 : Int32) = 0
    · rw [if_pos p, if_pos p]
      exact ws_xs h0 (by omega) (WS_addException hW hJ (by omega) _ _ 1 (Or.inr rfl))
    · rw [if_neg p, if_neg p]
      exact ws_xs h0 (by omega) (WS_addException hW hJ (by omega) _ _ 0 (Or.inl rfl))
  rw [if_neg g4, if_neg g4]
  by_cases g5 : w = 5
  · rw [if_pos g5, if_pos g5]
    by_cases p : nI c - nI c / (2 : Int32) * (2 : Int32) = 0
    · rw [if_pos p, if_pos p]
      exact ws_xs h0 (by omega) (WS_addException hW hJ (by omega) _ _ 1 (Or.inr rfl))
    · rw [if_neg p, if_neg p]
      exact ws_xs h0 (by omega) (WS_addException hW hJ (by omega) _ _ 0 (Or.inl rfl))
  rw [if_neg g5, if_neg g5]
  by_cases g6 : w = 6
  · rw [if_pos g6, if_pos g6]
    by_cases p : nI c - nI c / (2 : Int32) * (2 : Int32) = 0
    · rw [if_pos p, if_pos p]
      exact ws_xs h0 (by omega) (WS_addException hW hJ (by omega) _ _ 1 (Or.inr rfl))
    · rw [if_neg p, if_neg p]
      exact ws_xs h0 (by omega) (WS_addException hW hJ (by omega) _ _ 0 (Or.inl rfl))
  rw [if_neg g6, if_neg g6]
  by_cases g7 : w = 7
  · rw [if_pos g7, if_pos g7]
    by_cases p : nI ne ≤ 0
    · rw [if_pos p, if_pos p]
      exact ws_xs h0 (by omega) (WS_liftException hW hJ (by omega) _ _)
    · rw [if_neg p, if_neg p]
      by_cases p2 : nI c - nI c / (4 : Int32) * (4 : Int32) ≤ 0
      · rw [if_pos p2, if_pos p2]
        exact ws_xs h0 (by omega) (WS_liftException hW hJ (by omega) _ _)
      · rw [if_neg p2, if_neg p2]
        have n0 : ¬ nI ne = 0 := fun e => p (by rw [e]; decide)
        exact ak n0 (ak (V_eDoor _ _ _) (ak n0 (ak (V_eDay _ _ _) (ws_xs h0 (by omega) (WS_liftException hW hJ (by omega) _ _)))))
  rw [if_neg g7, if_neg g7]
  by_cases g8 : w = 8
  · rw [if_pos g8, if_pos g8]
    by_cases p : nI ne ≤ 0
    · rw [if_pos p, if_pos p]
      exact ws_xs h0 (by omega) (WS_liftException hW hJ (by omega) _ _)
    · rw [if_neg p, if_neg p]
      by_cases p2 : nI c - nI c / (4 : Int32) * (4 : Int32) ≤ 0
      · rw [if_pos p2, if_pos p2]
        exact ws_xs h0 (by omega) (WS_liftException hW hJ (by omega) _ _)
      · rw [if_neg p2, if_neg p2]
        have n0 : ¬ nI ne = 0 := fun e => p (by rw [e]; decide)
        exact ak n0 (ak (V_eDoor _ _ _) (ak n0 (ak (V_eDay _ _ _) (ws_xs h0 (by omega) (WS_liftException hW hJ (by omega) _ _)))))
  rw [if_neg g8, if_neg g8]
  by_cases g9 : w = 9
  · rw [if_pos g9, if_pos g9]
    exact ws_xs h0 (by omega) (WS_addPerson hW hJ (by omega))
  rw [if_neg g9, if_neg g9]
  by_cases g10 : w = 10
  · rw [if_pos g10, if_pos g10]
    exact ws_xs h0 (by omega) (WS_giveKey hW hJ (by omega) _ _)
  rw [if_neg g10, if_neg g10]
  by_cases g11 : w = 11
  · rw [if_pos g11, if_pos g11]
    exact ws_xs h0 (by omega) (WS_giveKey hW hJ (by omega) _ _)
  rw [if_neg g11, if_neg g11]
  by_cases g12 : w = 12
  · rw [if_pos g12, if_pos g12]
    exact ws_xs h0 (by omega) (WS_takeKey hW hJ (by omega) _ _)
  rw [if_neg g12, if_neg g12]
  by_cases g13 : w = 13
  · rw [if_pos g13, if_pos g13]
    exact ws_xs h0 (by omega) (WS_tryDoor hW hJ (by omega) _ _)
  rw [if_neg g13, if_neg g13]
  by_cases g14 : w = 14
  · rw [if_pos g14, if_pos g14]
    exact ws_xs h0 (by omega) (WS_tryDoor hW hJ (by omega) _ _)
  rw [if_neg g14, if_neg g14]
  by_cases g15 : w = 15
  · rw [if_pos g15, if_pos g15]
    exact ws_xs h0 (by omega) (WS_tryDoor hW hJ (by omega) _ _)
  rw [if_neg g15, if_neg g15]
  by_cases g16 : w = 16
  · rw [if_pos g16, if_pos g16]
    exact ws_xs h0 (by omega) (WS_tryDoor hW hJ (by omega) _ _)
  rw [if_neg g16, if_neg g16]
  by_cases g17 : w = 17
  · rw [if_pos g17, if_pos g17]
    exact ws_xs h0 (by omega) (WS_setCycle hW hJ (by omega) _)
  rw [if_neg g17, if_neg g17]
  by_cases g18 : w = 18
  · rw [if_pos g18, if_pos g18]
    by_cases p : nI c - nI c / (3 : Int32) * (3 : Int32) = 0
    · rw [if_pos p, if_pos p]
      exact ws_xs h0 (by omega) (WS_advance hW hJ (by omega) _)
    · rw [if_neg p, if_neg p]
      exact ws_xs h0 (by omega) (WS_advance hW hJ (by omega) _)
  rw [if_neg g18, if_neg g18]
  by_cases g19 : w = 19
  · rw [if_pos g19, if_pos g19]
    by_cases p : nI c - nI c / (3 : Int32) * (3 : Int32) = 0
    · rw [if_pos p, if_pos p]
      exact ws_xs h0 (by omega) (WS_advance hW hJ (by omega) _)
    · rw [if_neg p, if_neg p]
      exact ws_xs h0 (by omega) (WS_advance hW hJ (by omega) _)
  rw [if_neg g19, if_neg g19]
  obtain ⟨p1, t1⟩ := tw_str tw_Z (j := 17) (L := 5) (by omega) (by omega) rfl (by omega)
  obtain ⟨p2, t2⟩ := tw_int t1 (v := 1 + c) (k := 3) (by omega) (by omega) (by omega)
  refine ak p1 (ak p2 ?_)
  by_cases f0 : nI c - nI c / (4 : Int32) * (4 : Int32) = 0
  · rw [if_pos f0, if_pos f0]
    obtain ⟨r1, s1⟩ := tw_str tw_Z (j := 18) (L := 5) (by omega) (by omega) rfl (by omega)
    obtain ⟨r2, s2⟩ := tw_int s1 (v := a) (k := 1) (by omega) (by omega) (by omega)
    obtain ⟨r3, s3⟩ := tw_int s2 (v := b) (k := 1) (by omega) (by omega) (by omega)
    obtain ⟨r4, s4⟩ := tw_toS s3 (by omega)
    obtain ⟨r5, s5⟩ := tw_txt t2 s4 (by omega)
    obtain ⟨r6, s6⟩ := tw_toS s5 (by omega)
    exact ak r1 (ak r2 (ak r3 (ak r4 (ak r5 (ak r6 (xs_ap (XS_does hW hJ (by omega) pg h0 s6 (by omega))))))))
  rw [if_neg f0, if_neg f0]
  by_cases f1 : nI c - nI c / (4 : Int32) * (4 : Int32) = 1
  · rw [if_pos f1, if_pos f1]
    obtain ⟨r1, s1⟩ := tw_str tw_Z (j := 19) (L := 6) (by omega) (by omega) rfl (by omega)
    obtain ⟨r2, s2⟩ := tw_int s1 (v := a) (k := 1) (by omega) (by omega) (by omega)
    obtain ⟨r3, s3⟩ := tw_str s2 (j := 20) (L := 1) (by omega) (by omega) rfl (by omega)
    obtain ⟨r4, s4⟩ := tw_int s3 (v := t / 24 + b) (k := 4) (by omega) (by omega) (by omega)
    obtain ⟨r5, s5⟩ := tw_str s4 (j := 21) (L := 6) (by omega) (by omega) rfl (by omega)
    obtain ⟨r6, s6⟩ := tw_int s5 (v := a) (k := 1) (by omega) (by omega) (by omega)
    obtain ⟨r7, s7⟩ := tw_toS s6 (by omega)
    obtain ⟨r8, s8⟩ := tw_txt t2 s7 (by omega)
    obtain ⟨r9, s9⟩ := tw_toS s8 (by omega)
    exact ak r1 (ak r2 (ak r3 (ak r4 (ak r5 (ak r6 (ak r7 (ak r8 (ak r9 (xs_ap (XS_does hW hJ (by omega) pg h0 s9 (by omega)))))))))))
  rw [if_neg f1, if_neg f1]
  by_cases f2 : nI c - nI c / (4 : Int32) * (4 : Int32) = 2
  · rw [if_pos f2, if_pos f2]
    obtain ⟨r1, s1⟩ := tw_str tw_Z (j := 22) (L := 6) (by omega) (by omega) rfl (by omega)
    obtain ⟨r2, s2⟩ := tw_int s1 (v := a) (k := 1) (by omega) (by omega) (by omega)
    obtain ⟨r3, s3⟩ := tw_str s2 (j := 20) (L := 1) (by omega) (by omega) rfl (by omega)
    obtain ⟨r4, s4⟩ := tw_int s3 (v := t / 24 + b) (k := 4) (by omega) (by omega) (by omega)
    obtain ⟨r5, s5⟩ := tw_str s4 (j := 23) (L := 7) (by omega) (by omega) rfl (by omega)
    obtain ⟨r6, s6⟩ := tw_int s5 (v := b) (k := 1) (by omega) (by omega) (by omega)
    obtain ⟨r7, s7⟩ := tw_toS s6 (by omega)
    obtain ⟨r8, s8⟩ := tw_txt t2 s7 (by omega)
    obtain ⟨r9, s9⟩ := tw_toS s8 (by omega)
    exact ak r1 (ak r2 (ak r3 (ak r4 (ak r5 (ak r6 (ak r7 (ak r8 (ak r9 (xs_ap (XS_does hW hJ (by omega) pg h0 s9 (by omega)))))))))))
  rw [if_neg f2, if_neg f2]
  obtain ⟨r1, s1⟩ := tw_str tw_Z (j := 24) (L := 6) (by omega) (by omega) rfl (by omega)
  obtain ⟨r2, s2⟩ := tw_int s1 (v := 23 + b) (k := 2) (by omega) (by omega) (by omega)
  obtain ⟨r3, s3⟩ := tw_str s2 (j := 25) (L := 7) (by omega) (by omega) rfl (by omega)
  obtain ⟨r4, s4⟩ := tw_int s3 (v := b) (k := 1) (by omega) (by omega) (by omega)
  obtain ⟨r5, s5⟩ := tw_toS s4 (by omega)
  obtain ⟨r6, s6⟩ := tw_txt t2 s5 (by omega)
  obtain ⟨r7, s7⟩ := tw_toS s6 (by omega)
  exact ak r1 (ak r2 (ak r3 (ak r4 (ak r5 (ak r6 (ak r7 (xs_ap (XS_does hW hJ (by omega) pg h0 s7 (by omega)))))))))
