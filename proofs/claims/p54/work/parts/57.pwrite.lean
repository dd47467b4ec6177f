/-! ===== the calls that change: doors, persons, the cycle ===== -/
theorem RD.congr {v : DoV} {s s' : Nat → Int32} (h : RD v s) (hs : ∀ j, (j = 2 ∨ 11 ≤ j ∧ j < 43) → s' j = s j) : RD v s' := by
  obtain ⟨nd, d1, d2, d3, d4⟩ := h
  refine ⟨nd, d1, d2, ?_, fun j hj => ?_⟩
  · rw [hs _ (by omega)]; exact d3
  · rw [hs _ (by omega), hs _ (by omega), hs _ (by omega), hs _ (by omega)]; exact d4 j hj
theorem RE.congr {v : ExV} {s s' : Nat → Int32} (h : RE v s) (hs : ∀ j, (j = 4 ∨ 55 ≤ j ∧ j < 91) → s' j = s j) : RE v s' := by
  obtain ⟨ne, e1, e2, e3, e4⟩ := h
  refine ⟨ne, e1, e2, ?_, fun i hi => ?_⟩
  · rw [hs _ (by omega)]; exact e3
  · rw [hs _ (by omega), hs _ (by omega), hs _ (by omega)]; exact e4 i hi
theorem RP.congr {B : Nat} {v : PeV} {s s' : Nat → Int32} (h : RP B v s) (hs : ∀ j, (j = 3 ∨ 43 ≤ j ∧ j < 55) → s' j = s j) : RP B v s' := by
  obtain ⟨n, p1, p2, p3, p4⟩ := h
  refine ⟨n, p1, p2, ?_, fun j hj => ?_⟩
  · rw [hs _ (by omega)]; exact p3
  · rw [hs _ (by omega), hs _ (by omega)]; exact p4 j hj
theorem RA.congr {B t : Nat} {v : AuV} {s s' : Nat → Int32} (h : RA B t v s) (hs : ∀ j, (5 ≤ j ∧ j < 11 ∨ 91 ≤ j ∧ j < 249) → s' j = s j) : RA B t v s' := by
  obtain ⟨na, q1, q2, q3, q4, q5, q6, q7⟩ := h
  refine ⟨na, q1, q2, ?_, ?_, fun r hr => ?_, fun i hi => ?_, fun a ha r hr => ?_⟩
  · rw [hs _ (by omega)]; exact q3
  · rw [hs _ (by omega), hs _ (by omega), hs _ (by omega), hs _ (by omega), hs _ (by omega)]; exact q4
  · rw [hs _ (by omega)]; exact q5 r hr
  · have hi2 : i < 10 := by omega
    rw [hs _ (by omega), hs _ (by omega), hs _ (by omega)]; exact q6 i hi
  · rw [hs _ (by omega), hs _ (by omega)]; exact q7 a ha r hr
theorem isIn0 {x hi : Int32} (h : x < 0) : f_X10_isIn x 0 hi = 0 := if_pos h
theorem isIn1 {x : Int32} {n : Nat} (hn : n + 1 < 2 ^ 31) (h : nI (n + 1) ≤ x) : f_X10_isIn x 0 (nI n) = 0 := by
  unfold f_X10_isIn
  have h1 := Int32.le_iff_toInt_le.mp h
  rw [nI_toInt hn] at h1
  rw [if_pos (show nI n < x by rw [Int32.lt_iff_toInt_lt, nI_toInt (by omega)]; omega), ite_self]
theorem isIn2 {j n : Nat} (h : j ≤ n) (hn : n < 2 ^ 31) : f_X10_isIn (nI j) 0 (nI n) = 1 := by
  unfold f_X10_isIn
  rw [if_neg (nI_pos (by omega)), if_neg (nI_nlt h hn)]
theorem i_case (x : Int32) {n : Nat} (hn : n + 1 < 2 ^ 31) : (f_X10_isIn x 0 (nI n) = 0 ∧ (x < 0 ∨ ¬ x < 0 ∧ nI (n + 1) ≤ x)) ∨ f_X10_isIn x 0 (nI n) = 1 ∧ ∃ j, j < n + 1 ∧ x = nI j := by
  by_cases h0 : x < 0
  · exact Or.inl ⟨isIn0 h0, Or.inl h0⟩
  · rcases q_arg x hn with g | g | ⟨j, g, rfl⟩
    · exact absurd g h0
    · exact Or.inl ⟨isIn1 hn g, Or.inr ⟨h0, g⟩⟩
    · exact Or.inr ⟨isIn2 (by omega) (by omega), j, g, rfl⟩
theorem rule_case (ph fh lh k : Int32) : (f_X2_faultOfRule ph fh lh k = 2 ∧ f_X10_isRule ph fh lh k = 0) ∨ f_X2_faultOfRule ph fh lh k = 0 ∧ f_X10_isRule ph fh lh k = 1 ∧ ∃ a b c e : Nat, a < 256 ∧ b < 24 ∧ c < 24 ∧ e < 8 ∧ ph = nI a ∧ fh = nI b ∧ lh = nI c ∧ k = nI e := by
  unfold f_X2_faultOfRule f_X10_isRule f_X10_isKey
  have e255 : (255 : Int32) = nI 255 := rfl
  have e23 : (23 : Int32) = nI 23 := rfl
  have e7 : (7 : Int32) = nI 7 := rfl
  have w255 : ∀ x : Int32, ((255 : Int32) < x) = (nI 256 ≤ x) := fun x => propext (by rw [← q_pred (n := 256) (by decide)]; exact Iff.rfl)
  rw [e255, e23, e7]
  rcases i_case ph (n := 255) (by decide) with ⟨a1, a2 | ⟨a2, a3⟩⟩ | ⟨a1, a, ha, rfl⟩
  · left; rw [a1, if_pos a2, if_pos rfl]; exact ⟨rfl, rfl⟩
  · left; rw [a1, if_neg a2, if_pos rfl, if_pos (show nI 255 < ph by rw [← e255, w255]; exact a3)]; exact ⟨rfl, rfl⟩
  · have x1 : (nI a < 0) = False := eq_false (nI_pos (by omega))
    have x2 : (nI 255 < nI a) = False := eq_false (nI_nlt (by omega) (by decide))
    rcases i_case fh (n := 23) (by decide) with ⟨b1, b2 | ⟨b2, b3⟩⟩ | ⟨b1, b, hb, rfl⟩
    · left; simp only [a1, b1, x1, x2, L10, ite_false, ite_true, eq_self, b2, and_self]
    · left; simp only [a1, b1, x1, x2, L10, ite_false, ite_true, eq_self, eq_false b2, eq_true (show (24 : Int32) ≤ fh from b3), and_self]
    · have y1 : (nI b < 0) = False := eq_false (nI_pos (by omega))
      have y2 : ((24 : Int32) ≤ nI b) = False := eq_false (nI_ge (b := 24) (by omega) (by decide))
      rcases i_case lh (n := 23) (by decide) with ⟨c1, c2 | ⟨c2, c3⟩⟩ | ⟨c1, c, hc, rfl⟩
      · left; simp only [a1, b1, c1, x1, x2, y1, y2, L10, ite_false, ite_true, eq_self, c2, and_self]
      · left; simp only [a1, b1, c1, x1, x2, y1, y2, L10, ite_false, ite_true, eq_self, eq_false c2, eq_true (show (24 : Int32) ≤ lh from c3), and_self]
      · have z1 : (nI c < 0) = False := eq_false (nI_pos (by omega))
        have z2 : ((24 : Int32) ≤ nI c) = False := eq_false (nI_ge (b := 24) (by omega) (by decide))
        rcases i_case k (n := 7) (by decide) with ⟨d1, d2 | ⟨d2, d3⟩⟩ | ⟨d1, e, he, rfl⟩
        · left; simp only [a1, b1, c1, d1, x1, x2, y1, y2, z1, z2, L10, ite_false, ite_true, eq_self, d2, and_self]
        · left; simp only [a1, b1, c1, d1, x1, x2, y1, y2, z1, z2, L10, ite_false, ite_true, eq_self, eq_false d2, eq_true (show (8 : Int32) ≤ k from d3), and_self]
        · right
          have u1 : (nI e < 0) = False := eq_false (nI_pos (by omega))
          have u2 : ((8 : Int32) ≤ nI e) = False := eq_false (nI_ge (b := 8) (by omega) (by decide))
          refine ⟨?_, ?_, a, b, c, e, by omega, by omega, by omega, by omega, rfl, rfl, rfl, rfl⟩
          · simp only [x1, x2, y1, y2, z1, z2, u1, u2, ite_false]
          · simp only [a1, b1, c1, d1, L10, ite_false]
/-- a rule's four places -/
def sRule (s : Nat → Int32) (j a b c e : Nat) : Nat → Int32 := upd (upd (upd (upd s (11 + 4 * j) (nI a)) (11 + 4 * j + 1) (nI b)) (11 + 4 * j + 2) (nI c)) (11 + 4 * j + 3) (nI e)
theorem sRule_ne (s : Nat → Int32) {j a b c e q : Nat} (h : q < 11 + 4 * j ∨ 15 + 4 * j ≤ q) : sRule s j a b c e q = s q := by
  unfold sRule
  rw [upd_ne _ _ (by omega), upd_ne _ _ (by omega), upd_ne _ _ (by omega), upd_ne _ _ (by omega)]
theorem m_rules (d : MoV) {j a b c e : Nat} (hj : j < 8) : f_X10_rules d (nI j) (nI a) (nI b) (nI c) (nI e) = mo0 d (sRule d.1 j a b c e) ∧ ok_X10_rules d (nI j) (nI a) (nI b) (nI c) (nI e) := by
  have e0 : ∀ w, w < 4 → ((11 : Int32) + (4 : Int32) * nI j) + nI w = nI (11 + 4 * j + w) := fun w _ => by rw [q_11, q_4, pk_mul, nI_add, nI_add]
  unfold f_X10_rules ok_X10_rules
  have i0 : ((11 : Int32) + (4 : Int32) * nI j) + 0 = nI (11 + 4 * j) := e0 0 (by decide)
  have i1 : ((11 : Int32) + (4 : Int32) * nI j) + 1 = nI (11 + 4 * j + 1) := e0 1 (by decide)
  have i2 : ((11 : Int32) + (4 : Int32) * nI j) + 2 = nI (11 + 4 * j + 2) := e0 2 (by decide)
  have i3 : ((11 : Int32) + (4 : Int32) * nI j) + 3 = nI (11 + 4 * j + 3) := e0 3 (by decide)
  rw [i0, i1, i2, i3, nI_clamp (by omega), nI_clamp (by omega), nI_clamp (by omega), nI_clamp (by omega)]
  exact ⟨rfl, in_lit _ (by omega), in_lit _ (by omega), in_lit _ (by omega), in_lit _ (by omega), trivial⟩
theorem RD.rule {v : DoV} {s s' : Nat → Int32} (h : RD v s) {j a b c e m : Nat} (hj : j < 8) (ha : a < 256) (hb : b < 24) (hc : c < 24) (he : e < 8) (hm : m ≤ 8) (hs : ∀ q, q ≠ 2 → s' q = sRule s j a b c e q) (h2 : s' 2 = nI m) : RD (nI m, upd v.2.1 j (nI a), upd v.2.2.1 j (nI b), upd v.2.2.2.1 j (nI c), upd v.2.2.2.2 j (nI e)) s' := by
  obtain ⟨nd, d1, d2, d3, d4⟩ := h
  refine ⟨m, hm, rfl, h2, fun i hi => ?_⟩
  rw [hs _ (by omega), hs _ (by omega), hs _ (by omega), hs _ (by omega)]
  by_cases hij : i = j
  · subst hij
    refine ⟨a, b, c, e, ha, hb, hc, he, upd_eq _ _ _, upd_eq _ _ _, upd_eq _ _ _, upd_eq _ _ _, ?_, ?_, ?_, ?_⟩
    · unfold sRule; rw [upd_ne _ _ (by omega), upd_ne _ _ (by omega), upd_ne _ _ (by omega), upd_eq]
    · unfold sRule; rw [upd_ne _ _ (by omega), upd_ne _ _ (by omega), upd_eq]
    · unfold sRule; rw [upd_ne _ _ (by omega), upd_eq]
    · unfold sRule; rw [upd_eq]
  · rw [sRule_ne _ (by omega), sRule_ne _ (by omega), sRule_ne _ (by omega), sRule_ne _ (by omega)]
    show ∃ a' b' c' e' : Nat, a' < 256 ∧ b' < 24 ∧ c' < 24 ∧ e' < 8 ∧ upd v.2.1 j (nI a) i = nI a' ∧ upd v.2.2.1 j (nI b) i = nI b' ∧ upd v.2.2.2.1 j (nI c) i = nI c' ∧ upd v.2.2.2.2 j (nI e) i = nI e' ∧ _
    rw [upd_ne _ _ hij, upd_ne _ _ hij, upd_ne _ _ hij, upd_ne _ _ hij]
    exact d4 i hi
theorem c_write (v : DoV) {j : Nat} (hj : j < 8) (a b c e : Int32) : f_X2_write v (nI j) a b c e = (v.1, upd v.2.1 j a, upd v.2.2.1 j b, upd v.2.2.2.1 j c, upd v.2.2.2.2 j e) := by
  unfold f_X2_write
  rw [n_put _ _ hj (by decide), n_put _ _ hj (by decide), n_put _ _ hj (by decide), n_put _ _ hj (by decide)]
theorem keeps_w (d : MoV) : ∀ j, j < 249 → (fun q => if q < 249 then d.1 q else d.2.1 q) j = d.1 j := fun j hj => if_pos hj
theorem R_addDoor {B : Nat} {q : McV} {v sn : StV} {hi : HiV} {hs : Nat → StV} {tb nt : SbV} {d : MoV} (h : RW B q v sn hi hs tb nt d) (ph fh lh k : Int32) : ok_X10_addDoor d ph fh lh k ∧ RC ["java/lang/IllegalArgumentException", "java/lang/IllegalStateException"] (f_X9_addDoor q v hi hs ph fh lh k).1 (f_X9_addDoor q v hi hs ph fh lh k).2.1 (f_X10_addDoor d ph fh lh k).1 (f_X10_addDoor d ph fh lh k).2.2.2.2.2.2.1 ∧
    RW B q (f_X9_addDoor q v hi hs ph fh lh k).2.2.1 sn (f_X9_addDoor q v hi hs ph fh lh k).2.2.2.1 (f_X9_addDoor q v hi hs ph fh lh k).2.2.2.2 tb nt (f_X10_addDoor d ph fh lh k).2 := by
  obtain ⟨t, c, ht, hc, hc2, e1, e2, e3, e4, hD, hE, hP, hA⟩ := id h.1
  obtain ⟨n, d1, d2, d3, d4⟩ := id hD
  obtain ⟨k1, k2⟩ := m_keeps d
  unfold ok_X10_addDoor f_X9_addDoor f_X10_addDoor f_X8_faultOfNewDoor
  rw [k1]
  rcases rule_case ph fh lh k with ⟨r1, r2⟩ | ⟨r1, r2, a, b, c', e, ha, hb, hc', he, rfl, rfl, rfl, rfl⟩
  · simp only [r1, r2, eq_self, ite_true, ite_false, eq_false (show ¬ (2 : Nat) = 0 by decide), tf2, S2, m_thr1]
    exact ⟨⟨k2, trivial⟩, RC.x1 (by decide), h⟩
  · have c2 : (mo5 (mo1 d (fun q => if q < 249 then d.1 q else d.2.1 q)) 0).1 (2 : Int32).toNatClampNeg = nI n := d3
    by_cases h8 : n = 8
    · subst h8
      simp only [r1, r2, L10, eq_self, ite_true, ite_false, d2, eq_false (show ¬ nI 8 < (8 : Int32) by decide), tf4, S4, m_thr0, m_thr1, show ((2 : Int32).toNatClampNeg) = 2 from rfl, d3, eq_true (show nI 8 = (8 : Int32) from rfl)]
      exact ⟨⟨k2, trivial⟩, RC.x2 (by decide), h⟩
    · have hn : ¬ nI n = (8 : Int32) := by rw [q_8, nI_eq (by omega) (by omega)]; exact h8
      obtain ⟨u1, u2⟩ := m_rules (mo5 (mo1 d (fun q => if q < 249 then d.1 q else d.2.1 q)) 0) (a := a) (b := b) (c := c') (e := e) (show n < 8 by omega)
      have hS : RS B (v.1, v.2.1, (nI (n + 1), upd v.2.2.1.2.1 n (nI a), upd v.2.2.1.2.2.1 n (nI b), upd v.2.2.1.2.2.2.1 n (nI c'), upd v.2.2.1.2.2.2.2 n (nI e)), v.2.2.2.1, v.2.2.2.2.1, v.2.2.2.2.2) (upd (sRule d.1 n a b c' e) 2 (nI (n + 1))) := by
        have fr : ∀ q, q ≠ 2 → q < 11 ∨ 43 ≤ q → upd (sRule d.1 n a b c' e) 2 (nI (n + 1)) q = d.1 q := fun q h2 hq => by rw [upd_ne _ _ h2, sRule_ne _ (by omega)]
        refine ⟨t, c, ht, hc, hc2, e1, ?_, e3, ?_, ?_, hE.congr (fun j hj => fr j (by omega) (by omega)), hP.congr (fun j hj => fr j (by omega) (by omega)), hA.congr (fun j hj => fr j (by omega) (by omega))⟩
        · rw [fr 0 (by decide) (by decide)]; exact e2
        · rw [fr 1 (by decide) (by decide)]; exact e4
        · exact hD.rule (by omega) ha hb hc' he (by omega) (fun q hq => upd_ne _ _ hq) (upd_eq _ _ _)
      obtain ⟨z1, z2, z3, z4⟩ := m_modify h (Nat.le_refl B) _ (nI n) hS _ (keeps_w d)
      have n8 : (nI n < (8 : Int32)) = True := eq_true (nI_lt (b := 8) (by omega) (by decide))
      have eX : mo0 (mo0 (mo5 (mo1 d (fun q => if q < 249 then d.1 q else d.2.1 q)) 0) (sRule d.1 n a b c' e)) (upd (sRule d.1 n a b c' e) 2 (nI (n + 1))) = mo5 (mo0 (mo1 d (fun q => if q < 249 then d.1 q else d.2.1 q)) (upd (sRule d.1 n a b c' e) 2 (nI (n + 1)))) 0 := rfl
      have s2 : sRule d.1 n a b c' e 2 = nI n := (sRule_ne _ (by omega)).trans d3
      have u1 : f_X10_rules (mo5 (mo5 (mo5 (mo1 d (fun q => if q < 249 then d.1 q else d.2.1 q)) 0) 0) 0) (nI n) (nI a) (nI b) (nI c') (nI e) = mo0 (mo5 (mo1 d (fun q => if q < 249 then d.1 q else d.2.1 q)) 0) (sRule d.1 n a b c' e) := u1
      have u2 : ok_X10_rules (mo5 (mo5 (mo5 (mo1 d (fun q => if q < 249 then d.1 q else d.2.1 q)) 0) 0) 0) (nI n) (nI a) (nI b) (nI c') (nI e) := u2
      have g2 : ((2 : Int32).toNatClampNeg) = 2 := rfl
      simp only [r1, r2, L10, eq_self, ite_true, ite_false, d2, n8, tf0, m_thr0, g2, d3, eq_false hn, u1, s2, nI_1, upd_eq, nI_pred, eX, u2, true_and, and_true]
      refine ⟨⟨k2, z1⟩, ?_, ?_⟩
      · rw [z2, z3]
        exact RC.ok (by unfold f_X2_append; exact d2)
      · have ea : (f_X2_append v.2.2.1 (nI a) (nI b) (nI c') (nI e)).2 = (nI (n + 1), upd v.2.2.1.2.1 n (nI a), upd v.2.2.1.2.2.1 n (nI b), upd v.2.2.1.2.2.2.1 n (nI c'), upd v.2.2.1.2.2.2.2 n (nI e)) := by
          unfold f_X2_append
          rw [d2, c_write _ (by omega), d2]
          simp only [nI_1]
        rw [ea]
        exact z4
