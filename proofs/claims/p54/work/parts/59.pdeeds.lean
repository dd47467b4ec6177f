/-! ===== deeds that commands can name: what each does, class against reference ===== -/
def CORE (B : Nat) (F : Nat) (A : Int32 × StV) (xs : List String) (O : Prop) (R : Int32 × MoV) (dd : MoV) : Prop := O ∧ ((∃ k : Nat, k < 5 ∧ F ≠ 0 ∧ xs[k]? = some (f_X9_throwFor F) ∧ f_X9_throwFor F ≠ "" ∧ R = (0, mo5 dd (nI (k + 1)))) ∨ F = 0 ∧ ∃ s', R = (A.1, mo5 (mo0 dd s') 0) ∧ RS B A.2 s')
theorem ends_thrown (d : MoV) (told : Int32) {k : Nat} (hk : k < 5) (h : d.2.2.2.2.2.1 = nI (k + 1)) : f_X10_ends d told = (0, d) ∧ ok_X10_ends d told := by
  have n0 : ¬ d.2.2.2.2.2.1 = 0 := by rw [h]; exact nI_ne0 (by omega) (by omega)
  unfold f_X10_ends ok_X10_ends
  rw [if_neg n0, if_neg n0]
  exact ⟨rfl, trivial⟩
theorem g_deed {B B' : Nat} {q : McV} {v sn : StV} {hi : HiV} {hs : Nat → StV} {tb nt : SbV} {d : MoV} (h : RW B q v sn hi hs tb nt d) (hB : B ≤ B') (F : Nat) (A : Int32 × StV) (xs : List String) (O : Prop) (R : Int32 × MoV) (K : CORE B' F A xs O R (f_X10_keeps d)) :
    (ok_X10_keeps d ∧ O ∧ ok_X10_ends R.2 R.1 ∧ True) ∧ RC xs (if f_X9_throwFor F = "" then ("", A.1, A.2, (f_X4_note hi hs v).1, (f_X4_note hi hs v).2) else (f_X9_throwFor F, 0, v, hi, hs) : String × Int32 × StV × HiV × (Nat → StV)).1 (if f_X9_throwFor F = "" then ("", A.1, A.2, (f_X4_note hi hs v).1, (f_X4_note hi hs v).2) else (f_X9_throwFor F, 0, v, hi, hs) : String × Int32 × StV × HiV × (Nat → StV)).2.1 (f_X10_ends R.2 R.1).1 (f_X10_ends R.2 R.1).2.2.2.2.2.2.1 ∧
      RW B' q (if f_X9_throwFor F = "" then ("", A.1, A.2, (f_X4_note hi hs v).1, (f_X4_note hi hs v).2) else (f_X9_throwFor F, 0, v, hi, hs) : String × Int32 × StV × HiV × (Nat → StV)).2.2.1 sn (if f_X9_throwFor F = "" then ("", A.1, A.2, (f_X4_note hi hs v).1, (f_X4_note hi hs v).2) else (f_X9_throwFor F, 0, v, hi, hs) : String × Int32 × StV × HiV × (Nat → StV)).2.2.2.1 (if f_X9_throwFor F = "" then ("", A.1, A.2, (f_X4_note hi hs v).1, (f_X4_note hi hs v).2) else (f_X9_throwFor F, 0, v, hi, hs) : String × Int32 × StV × HiV × (Nat → StV)).2.2.2.2 tb nt (f_X10_ends R.2 R.1).2 := by
  obtain ⟨k1, k2⟩ := m_keeps d
  obtain ⟨o, K⟩ := K
  rw [k1] at K
  rcases K with ⟨k, hk, hF, hx, hE, hR⟩ | ⟨hF, s', hR, hS⟩
  · subst hR
    obtain ⟨f1, f2⟩ := ends_thrown (mo5 (mo5 (mo1 d (fun q => if q < 249 then d.1 q else d.2.1 q)) 0) (nI (k + 1))) 0 hk rfl
    rw [if_neg hE, f1]
    exact ⟨⟨k2, o, f2, trivial⟩, Or.inr ⟨k, hk, hx, hE, rfl⟩, h.mono hB⟩
  · subst hR
    subst hF
    obtain ⟨z1, z2, z3, z4⟩ := m_modify h hB s' A.1 hS _ (keeps_w d)
    rw [if_pos tf0]
    have z2 : (f_X10_ends (mo5 (mo0 (mo5 (mo1 d (fun q => if q < 249 then d.1 q else d.2.1 q)) 0) s') 0) A.1).1 = A.1 := z2
    have z3 : (f_X10_ends (mo5 (mo0 (mo5 (mo1 d (fun q => if q < 249 then d.1 q else d.2.1 q)) 0) s') 0) A.1).2.2.2.2.2.2.1 = 0 := z3
    refine ⟨⟨k2, o, z1, trivial⟩, ?_, z4⟩
    rw [z2, z3]
    exact RC.ok rfl
/-! the cycle -/
theorem C_moons {B : Nat} {v : StV} {d : MoV} (h : RS B v d.1) (x : Int32) : CORE B (f_X8_faultOfCycle x) (f_X8_changeCycle v x) ["java/lang/IllegalArgumentException"] True (f_X10_moons d x) d := by
  obtain ⟨t, c, ht, hc, hc2, e1, e2, e3, e4, hD, hE, hP, hA⟩ := h
  refine ⟨trivial, ?_⟩
  unfold f_X8_faultOfCycle f_X10_moons f_X8_changeCycle
  rcases g_rng x 24 32 with ⟨r1, r2⟩ | ⟨r1, r2, r3, r4⟩
  · left
    have e : (if x < 24 then 2 else if x ≤ 32 then 0 else 2 : Nat) = 2 := by
      unfold f_X9_requireRange at r1
      by_cases h1 : x < 24
      · rw [if_pos h1]
      · rw [if_neg h1] at r1 ⊢
        by_cases h2 : x ≤ 32
        · rw [if_pos h2] at r1; exact absurd r1 (by decide)
        · rw [if_neg h2]
    simp only [e, r2, eq_self, ite_true, m_thr1]
    exact ⟨0, by decide, by decide, rfl, by decide, rfl⟩
  · right
    obtain ⟨j, h1, h2, rfl⟩ := g_nat (lo := 24) (n := 32) (by decide) (by decide) r3 r4
    rw [if_neg r3, if_pos r4]
    simp only [r2, L10, ite_false, m_thr0]
    refine ⟨trivial, upd d.1 1 (nI j), ?_, t, j, ht, h1, h2, e1, ?_, rfl, upd_eq _ _ _, hD.congr (fun j hj => upd_ne _ _ (by omega)), hE.congr (fun j hj => upd_ne _ _ (by omega)), hP.congr (fun j hj => upd_ne _ _ (by omega)), hA.congr (fun j hj => upd_ne _ _ (by omega))⟩
    · show (d.1 1, _) = (v.2.1, _)
      rw [e3, e4]; rfl
    · rw [upd_ne _ _ (by decide)]; exact e2
/-! keys -/
theorem or_bit : ∀ a, a < 256 → ∀ e, e < 8 → (nI a ||| ((1 : Int32) <<< (nI e &&& 31))) = nI (a ||| 1 <<< e) ∧ (a ||| 1 <<< e) < 256 := by decide +kernel
theorem and_bit : ∀ a, a < 256 → ∀ e, e < 8 → ((nI a >>> (nI e &&& 31)) &&& 1) = 1 → (nI a &&& (((1 : Int32) <<< (nI e &&& 31)) ^^^ (-1 : Int32))) = nI (a - 1 <<< e) ∧ nI a - ((1 : Int32) <<< (nI e &&& 31)) = nI (a - 1 <<< e) := by decide +kernel
theorem RP.ring {B : Nat} {v : PeV} {s : Nat → Int32} (h : RP B v s) {i a : Nat} (hi : i < 6) (ha : a < 256) : RP B (v.1, upd v.2.1 i (nI a), v.2.2) (upd s (43 + 2 * i) (nI a)) := by
  obtain ⟨n, p1, p2, p3, p4⟩ := h
  refine ⟨n, p1, p2, by rw [upd_ne _ _ (by omega)]; exact p3, fun j hj => ?_⟩
  obtain ⟨a', e', x1, x2, x3, x4, x5, x6⟩ := p4 j hj
  by_cases hij : j = i
  · subst hij
    exact ⟨a, e', ha, x2, upd_eq _ _ _, x4, upd_eq _ _ _, by rw [upd_ne _ _ (by omega)]; exact x6⟩
  · exact ⟨a', e', x1, x2, by show upd v.2.1 i (nI a) j = _; rw [upd_ne _ _ hij]; exact x3, x4, by rw [upd_ne _ _ (by omega)]; exact x5, by rw [upd_ne _ _ (by omega)]; exact x6⟩
theorem RS.ring {B : Nat} {v : StV} {s : Nat → Int32} (h : RS B v s) {i a : Nat} (hi : i < 6) (ha : a < 256) : RS B (v.1, v.2.1, v.2.2.1, v.2.2.2.1, (v.2.2.2.2.1.1, upd v.2.2.2.2.1.2.1 i (nI a), v.2.2.2.2.1.2.2), v.2.2.2.2.2) (upd s (43 + 2 * i) (nI a)) := by
  obtain ⟨t, c, ht, hc, hc2, e1, e2, e3, e4, hD, hE, hP, hA⟩ := h
  refine ⟨t, c, ht, hc, hc2, e1, ?_, e3, ?_, hD.congr (fun j hj => upd_ne _ _ (by omega)), hE.congr (fun j hj => upd_ne _ _ (by omega)), hP.ring hi ha, hA.congr (fun j hj => upd_ne _ _ (by omega))⟩
  · rw [upd_ne _ _ (by omega)]; exact e2
  · rw [upd_ne _ _ (by omega)]; exact e4
theorem C_gives {B : Nat} {v : StV} {d : MoV} (h : RS B v d.1) (x y : Int32) : CORE B (f_X5_faultOfGiving v.2.2.2.2.1 x y) ((f_X5_give v.2.2.2.2.1 x y).1, (v.1, v.2.1, v.2.2.1, v.2.2.2.1, (f_X5_give v.2.2.2.2.1 x y).2, v.2.2.2.2.2)) ["java/lang/IndexOutOfBoundsException", "java/lang/IllegalArgumentException", "java/lang/IllegalStateException"] (ok_X10_gives d x y) (f_X10_gives d x y) d := by
  obtain ⟨t, c, ht, hc, hc2, e1, e2, e3, e4, hD, hE, hP, hA⟩ := id h
  obtain ⟨n, d1, d2, d3, d4⟩ := id hP
  unfold CORE f_X5_faultOfGiving ok_X10_gives f_X10_gives
  rw [m_person hP]
  rcases h_pe v.2.2.2.2.1 d1 d2 x with e | ⟨e, i, hi, rfl⟩
  · simp only [e, eq_self, ite_true, m_thr1]
    exact ⟨trivial, Or.inl ⟨0, by decide, by decide, rfl, by decide, rfl⟩⟩
  · have hi6 : i < 6 := by omega
    rcases m_keyCase y with ⟨g1, g2⟩ | ⟨g1, k, hk, rfl⟩
    · have ef : (if y < 0 then 2 else if y < 8 then (if f_X5_ringContains v.2.2.2.2.1 (nI i) y = 0 then 0 else 4) else 2 : Nat) = 2 := by
        rcases g2 with g2 | g2
        · rw [if_pos g2]
        · rw [if_neg (show ¬ y < 8 from Int32.not_lt.mpr g2), ite_self]
      simp only [e, L10, g1, ef, eq_self, ite_true, ite_false, m_thr0, m_thr1]
      exact ⟨trivial, Or.inl ⟨1, by decide, by decide, rfl, by decide, rfl⟩⟩
    · have n0 : (nI k < 0) = False := eq_false (nI_pos (by omega))
      have n8 : (nI k < (8 : Int32)) = True := eq_true (nI_lt (b := 8) hk (by decide))
      obtain ⟨w1, w2, w3⟩ := c_has (d := mo5 (mo5 d 0) 0) hP hi6 (nI k)
      simp only [e, L10, g1, n0, n8, eq_self, ite_true, ite_false, m_thr0, w1]
      rcases w3 with w | w
      · obtain ⟨a, en, ha, hen, x1, x2, x3, x4⟩ := d4 i hi6
        obtain ⟨b1, b2⟩ := or_bit a ha k hk
        have ix : ((43 : Int32) + (2 : Int32) * nI i) + 0 = nI (43 + 2 * i) := by rw [q_43, q_2, pk_mul, nI_add]; exact Int32.add_zero _
        simp only [w, eq_self, ite_true, m_thr0, ix, nI_clamp (show 43 + 2 * i < 2 ^ 31 by omega), x3, b1]
        obtain ⟨p1, p2⟩ := m_ofP (mo0 (mo5 (mo5 (mo5 d 0) 0) 0) (upd d.1 (43 + 2 * i) (nI (a ||| 1 <<< k)))) hi6 (w := 0) (by decide)
        have p1 : f_X10_ofPerson (mo0 (mo5 (mo5 (mo5 d 0) 0) 0) (upd d.1 (43 + 2 * i) (nI (a ||| 1 <<< k)))) (nI i) 0 = nI (a ||| 1 <<< k) := p1.trans (upd_eq _ _ _)
        have p2 : ok_X10_ofPerson (mo0 (mo5 (mo5 (mo5 d 0) 0) 0) (upd d.1 (43 + 2 * i) (nI (a ||| 1 <<< k)))) (nI i) 0 := p2
        have eg : f_X5_give v.2.2.2.2.1 (nI i) (nI k) = (f_X10_bits (nI (a ||| 1 <<< k)), (v.2.2.2.2.1.1, upd v.2.2.2.2.1.2.1 i (nI (a ||| 1 <<< k)), v.2.2.2.2.1.2.2)) := by
          unfold f_X5_give
          rw [n_at _ hi6 (by decide), x1, b1, n_put _ _ hi6 (by decide)]
          simp only [n_at _ hi6 (show 6 < 2 ^ 31 by decide), upd_eq, n_bits _ b2]
        refine ⟨⟨w2, in_lit _ (by omega), in_lit _ (by omega), p2, trivial⟩, Or.inr ⟨trivial, upd d.1 (43 + 2 * i) (nI (a ||| 1 <<< k)), ?_, ?_⟩⟩
        · rw [p1, eg]
        · rw [eg]; exact h.ring hi6 b2
      · simp only [w, L10, ite_false, m_thr1]
        exact ⟨⟨w2, trivial⟩, Or.inl ⟨2, by decide, by decide, rfl, by decide, rfl⟩⟩
theorem C_takes {B : Nat} {v : StV} {d : MoV} (h : RS B v d.1) (x y : Int32) : CORE B (f_X5_faultOfTaking v.2.2.2.2.1 x y) ((f_X5_take v.2.2.2.2.1 x y).1, (v.1, v.2.1, v.2.2.1, v.2.2.2.1, (f_X5_take v.2.2.2.2.1 x y).2, v.2.2.2.2.2)) ["java/lang/IndexOutOfBoundsException", "java/util/NoSuchElementException"] (ok_X10_takes d x y) (f_X10_takes d x y) d := by
  obtain ⟨t, c, ht, hc, hc2, e1, e2, e3, e4, hD, hE, hP, hA⟩ := id h
  obtain ⟨n, d1, d2, d3, d4⟩ := id hP
  unfold CORE f_X5_faultOfTaking ok_X10_takes f_X10_takes
  rw [m_person hP]
  rcases h_pe v.2.2.2.2.1 d1 d2 x with e | ⟨e, i, hi, rfl⟩
  · simp only [e, eq_self, ite_true, m_thr1]
    exact ⟨trivial, Or.inl ⟨0, by decide, by decide, rfl, by decide, rfl⟩⟩
  · have hi6 : i < 6 := by omega
    obtain ⟨w1, w2, w3⟩ := c_has (d := mo5 d 0) hP hi6 y
    simp only [e, L10, eq_self, ite_true, ite_false, m_thr0, w1]
    rcases w3 with w | w
    · simp only [w, eq_self, ite_true, m_thr1]
      exact ⟨⟨w2, trivial⟩, Or.inl ⟨1, by decide, by decide, rfl, by decide, rfl⟩⟩
    · rcases m_keyCase y with ⟨g1, -⟩ | ⟨g1, k, hk, rfl⟩
      · exfalso
        unfold f_X10_has at w
        rw [g1, if_pos rfl] at w
        exact absurd w (by decide)
      · obtain ⟨a, en, ha, hen, x1, x2, x3, x4⟩ := d4 i hi6
        have hbit : ((nI a >>> (nI k &&& 31)) &&& 1) = 1 := by
          obtain ⟨p1, -⟩ := m_ofP (mo5 d 0) hi6 (w := 0) (by decide)
          have p1 : f_X10_ofPerson (mo5 d 0) (nI i) 0 = nI a := p1.trans x3
          unfold f_X10_has at w
          rw [g1, if_neg (by decide), p1] at w
          by_cases hb : ((nI a >>> (nI k &&& 31)) &&& 1) = 1
          · exact hb
          · rw [if_neg hb] at w; exact absurd w (by decide)
        obtain ⟨b1, b3⟩ := and_bit a ha k hk hbit
        have b2 : a - 1 <<< k < 256 := Nat.lt_of_le_of_lt (Nat.sub_le _ _) ha
        have ix : ((43 : Int32) + (2 : Int32) * nI i) + 0 = nI (43 + 2 * i) := by rw [q_43, q_2, pk_mul, nI_add]; exact Int32.add_zero _
        simp only [w, L10, ite_false, m_thr0, ix, nI_clamp (show 43 + 2 * i < 2 ^ 31 by omega), x3, b3]
        obtain ⟨p1, p2⟩ := m_ofP (mo0 (mo5 (mo5 d 0) 0) (upd d.1 (43 + 2 * i) (nI (a - 1 <<< k)))) hi6 (w := 0) (by decide)
        have p1 : f_X10_ofPerson (mo0 (mo5 (mo5 d 0) 0) (upd d.1 (43 + 2 * i) (nI (a - 1 <<< k)))) (nI i) 0 = nI (a - 1 <<< k) := p1.trans (upd_eq _ _ _)
        have p2 : ok_X10_ofPerson (mo0 (mo5 (mo5 d 0) 0) (upd d.1 (43 + 2 * i) (nI (a - 1 <<< k)))) (nI i) 0 := p2
        have eg : f_X5_take v.2.2.2.2.1 (nI i) (nI k) = (f_X10_bits (nI (a - 1 <<< k)), (v.2.2.2.2.1.1, upd v.2.2.2.2.1.2.1 i (nI (a - 1 <<< k)), v.2.2.2.2.1.2.2)) := by
          unfold f_X5_take
          rw [n_at _ hi6 (by decide), x1, b1, n_put _ _ hi6 (by decide)]
          simp only [n_at _ hi6 (show 6 < 2 ^ 31 by decide), upd_eq, n_bits _ b2]
        refine ⟨⟨w2, in_lit _ (by omega), in_lit _ (by omega), p2, trivial⟩, Or.inr ⟨trivial, upd d.1 (43 + 2 * i) (nI (a - 1 <<< k)), ?_, ?_⟩⟩
        · rw [p1, eg]
        · rw [eg]; exact h.ring hi6 b2
