/-! ===== what is seen of an object: every call of it is within bounds ===== -/
def FV (v : StV) : Prop := ∃ t c nd ne np na : Nat, t < 240000 ∧ 24 ≤ c ∧ c ≤ 32 ∧ v.1 = nI t ∧ v.2.1 = nI c ∧ nd ≤ 8 ∧ v.2.2.1.1 = nI nd ∧ ne ≤ 12 ∧ v.2.2.2.1.1 = nI ne ∧ np ≤ 6 ∧ v.2.2.2.2.1.1 = nI np ∧ na < 2 ^ 30 ∧ v.2.2.2.2.2.1 = nI na ∧ sm v.2.2.2.2.2.2.2.2.1 5 = nI na
theorem FV_of {B : Nat} {v : StV} {s : Nat → Int32} (h : RS B v s) (hB : B < 240000) : FV v := by
  obtain ⟨t, c, ht, hc, hc2, e1, e2, e3, e4, ⟨nd, d1, d2, -⟩, ⟨ne, x1, x2, -⟩, ⟨np, p1, p2, -⟩, ⟨na, a1, a2, a3, a4, a5, -⟩⟩ := h
  refine ⟨t, c, nd, ne, np, na, by omega, hc, hc2, e1, e3, d1, d2, x1, x2, p1, p2, by omega, a2, ?_⟩
  rw [← a4, show s 6 = _ from a5 0 (by decide), show s 7 = _ from a5 1 (by decide), show s 8 = _ from a5 2 (by decide), show s 9 = _ from a5 3 (by decide), show s 10 = _ from a5 4 (by decide)]
  show ((((0 + v.2.2.2.2.2.2.2.2.1 0) + v.2.2.2.2.2.2.2.2.1 1) + v.2.2.2.2.2.2.2.2.1 2) + v.2.2.2.2.2.2.2.2.1 3) + v.2.2.2.2.2.2.2.2.1 4 = _
  rw [Int32.zero_add]
theorem V_lR {q : McV} {v : StV} (x : Int32) : (f_X0_remembers v.2.2.2.2.2 x = 0 ∧ (f_X9_loggedResult q v x).1 = "java/util/NoSuchElementException") ∨ (f_X0_remembers v.2.2.2.2.2 x = 1 ∧ (f_X9_loggedResult q v x).1 = "") := by
  unfold f_X9_loggedResult
  have : f_X0_remembers v.2.2.2.2.2 x = 0 ∨ f_X0_remembers v.2.2.2.2.2 x = 1 := by
    unfold f_X0_remembers
    repeat' split
    all_goals first | exact Or.inl rfl | exact Or.inr rfl
  rcases this with g | g
  · rw [g]
    exact Or.inl ⟨rfl, rfl⟩
  · rw [g]
    exact Or.inr ⟨rfl, rfl⟩
theorem V_lRok {q : McV} {v : StV} (x : Int32) : ok_L_loggedResult q v x := by
  unfold ok_L_loggedResult
  rcases V_lR (q := q) (v := v) x with ⟨-, g⟩ | ⟨-, g⟩
  · rw [g, if_neg (by decide), if_pos rfl]; trivial
  · rw [g, if_pos rfl]; trivial
theorem se_44 {q : McV} {v : StV} : ∀ (n k : Nat) (al : Nat → Int32), n + k = 6 → okl_lp_L_seen_44 q v n (nI k) al ∨ n = 0 := by
  intro n
  induction n with
  | zero => intro k al _; exact Or.inr rfl
  | succ n ih =>
    intro k al h
    left
    unfold okl_lp_L_seen_44
    by_cases g : 5 ≤ k
    · rw [show (5 : Int32) = nI 5 from rfl, if_pos (nI_le g (by omega))]; trivial
    · rw [show (5 : Int32) = nI 5 from rfl, if_neg (nI_ge (by omega) (by decide)), V_attemptsWith (by omega), show (4 : Int32) = nI 4 from rfl, nI_add, nI_1]
      exact ⟨rfl, vp_in_nI (by omega) (by decide), (ih (k + 1) _ (by omega)).resolve_right (by omega)⟩
theorem i_door (k : Nat) : (10 : Int32) + (20 : Int32) * nI k = nI (10 + 20 * k) := by rw [show (10 : Int32) = nI 10 from rfl, show (20 : Int32) = nI 20 from rfl, pk_mul, nI_add]
theorem se_132 {q : McV} {v : StV} {nd j : Nat} (hn : nd ≤ 8) (h1 : v.2.2.1.1 = nI nd) (hj : j < nd) (r : Int32 × (Nat → Int32)) (a0 : Nat → Int32) : ∀ (n k : Nat) (al : Nat → Int32), n + k = 9 → (okl_lp_L_seen_132 q v r (nI j) a0 n (nI k) al ∧ okl_lp_L_seen_132' q v r (nI j) a0 n (nI k) al) ∨ n = 0 := by
  intro n
  induction n with
  | zero => intro k al _; exact Or.inr rfl
  | succ n ih =>
    intro k al h
    left
    unfold okl_lp_L_seen_132 okl_lp_L_seen_132'
    by_cases g : 8 ≤ k
    · rw [show (8 : Int32) = nI 8 from rfl, if_pos (nI_le g (by omega)), if_pos (nI_le g (by omega))]; exact ⟨trivial, trivial⟩
    · rw [show (8 : Int32) = nI 8 from rfl, if_neg (nI_ge (by omega) (by decide)), if_neg (nI_ge (by omega) (by decide)), i_door, show (4 : Int32) = nI 4 from rfl, show (12 : Int32) = nI 12 from rfl, nI_add, nI_add, nI_add, nI_add, nI_1]
      have e1 := V_entriesOn (q := q) h1 hn hj (show k ≤ 7 by omega)
      have e2 := V_refusalsOn (q := q) h1 hn hj (show k ≤ 7 by omega)
      have K := fun al => (ih (k + 1) al (by omega)).resolve_right (by omega)
      exact ⟨⟨e1, vp_in_nI (by omega) (by decide), e2, vp_in_nI (by omega) (by decide), (K _).1⟩, ⟨e1, vp_in_nI (by omega) (by decide), e2, vp_in_nI (by omega) (by decide), (K _).2⟩⟩
theorem se_67 {q : McV} {v : StV} {nd : Nat} (hn : nd ≤ 8) (h1 : v.2.2.1.1 = nI nd) (r : Int32 × (Nat → Int32)) : ∀ (n k : Nat) (al : Nat → Int32), n + k = 9 → okl_lp_L_seen_67 q v r n (nI k) al ∨ n = 0 := by
  intro n
  induction n with
  | zero => intro k al _; exact Or.inr rfl
  | succ n ih =>
    intro k al h
    left
    unfold okl_lp_L_seen_67
    have ed : f_X9_doorCount q v = nI nd := h1
    rw [ed]
    by_cases g : nd ≤ k
    · rw [if_pos (nI_le g (by omega))]; trivial
    · have hk : k < nd := by omega
      have K := fun al => (ih (k + 1) al (by omega)).resolve_right (by omega)
      have D := fun a0 al => (se_132 (q := q) hn h1 hk r a0 9 0 al rfl).resolve_right (by decide)
      rw [if_neg (nI_ge hk (by omega)), V_phasesOf h1 hn hk, V_keyOf h1 hn hk, V_hourCount h1 hn hk, V_isUnlocked h1 hn hk, i_door, show (1 : Int32) = nI 1 from rfl, show (2 : Int32) = nI 2 from rfl, show (3 : Int32) = nI 3 from rfl, nI_add, nI_add, nI_add, nI_add]
      refine ⟨rfl, vp_in_nI (by omega) (by decide), rfl, vp_in_nI (by omega) (by decide), rfl, vp_in_nI (by omega) (by decide), rfl, ?_⟩
      split
      · exact ⟨vp_in_nI (by omega) (by decide), (D _ _).1, fun r2 _ => K _⟩
      · exact ⟨vp_in_nI (by omega) (by decide), (D _ _).2, fun r2 _ => K _⟩
theorem i_pers (a k : Nat) {x : Int32} (hx : x = nI a) : x + (2 : Int32) * nI k = nI (a + 2 * k) := by rw [hx, show (2 : Int32) = nI 2 from rfl, pk_mul, nI_add]
theorem se_208 {q : McV} {v : StV} {np j : Nat} (hn : np ≤ 6) (h1 : v.2.2.2.2.1.1 = nI np) (hj : j < np) (r r2 : Int32 × (Nat → Int32)) (a0 : Nat → Int32) : ∀ (n k : Nat) (al : Nat → Int32), n + k = 9 → okl_lp_L_seen_208 q v r r2 (nI j) a0 n (nI k) al ∨ n = 0 := by
  intro n
  induction n with
  | zero => intro k al _; exact Or.inr rfl
  | succ n ih =>
    intro k al h
    left
    unfold okl_lp_L_seen_208
    have K := fun al => ih (k + 1) al (by omega)
    by_cases g : 8 ≤ k
    · rw [show (8 : Int32) = nI 8 from rfl, if_pos (nI_le g (by omega))]; trivial
    · rw [show (8 : Int32) = nI 8 from rfl, if_neg (nI_ge (by omega) (by decide)), V_hasKey h1 hn hj, i_pers 171 j (x := (171 : Int32)) rfl, nI_1]
      have K := fun al => (K al).resolve_right (by omega)
      refine ⟨vp_in_nI (by omega) (by decide), rfl, ?_⟩
      split
      · exact ⟨vp_in_nI (by omega) (by decide), K _⟩
      · exact ⟨vp_in_nI (by omega) (by decide), K _⟩
theorem se_184 {q : McV} {v : StV} {np : Nat} (hn : np ≤ 6) (h1 : v.2.2.2.2.1.1 = nI np) (r r2 : Int32 × (Nat → Int32)) : ∀ (n k : Nat) (al : Nat → Int32), n + k = 7 → okl_lp_L_seen_184 q v r r2 n (nI k) al ∨ n = 0 := by
  intro n
  induction n with
  | zero => intro k al _; exact Or.inr rfl
  | succ n ih =>
    intro k al h
    left
    unfold okl_lp_L_seen_184
    have ed : f_X9_personCount q v = nI np := h1
    rw [ed]
    by_cases g : np ≤ k
    · rw [if_pos (nI_le g (by omega))]; trivial
    · have hk : k < np := by omega
      have K := fun al => (ih (k + 1) al (by omega)).resolve_right (by omega)
      rw [if_neg (nI_ge hk (by omega)), V_entriesOf h1 hn hk, i_pers 170 k (x := (170 : Int32)) rfl, nI_1]
      exact ⟨rfl, vp_in_nI (by omega) (by decide), (se_208 (q := q) hn h1 hk r r2 al 9 0 _ rfl).resolve_right (by decide), fun r3 _ => K _⟩
theorem se_256 {q : McV} {v : StV} {ne : Nat} (hn : ne ≤ 12) (h1 : v.2.2.2.1.1 = nI ne) (r r2 r3 : Int32 × (Nat → Int32)) : ∀ (n k : Nat) (al : Nat → Int32), n + k = 13 → okl_lp_L_seen_256 q v r r2 r3 n (nI k) al ∨ n = 0 := by
  intro n
  induction n with
  | zero => intro k al _; exact Or.inr rfl
  | succ n ih =>
    intro k al h
    left
    unfold okl_lp_L_seen_256
    have ed : f_X9_exceptionCount q v = nI ne := h1
    rw [ed]
    by_cases g : ne ≤ k
    · rw [if_pos (nI_le g (by omega))]; trivial
    · have hk : k < ne := by omega
      have K := fun al => (ih (k + 1) al (by omega)).resolve_right (by omega)
      rw [if_neg (nI_ge hk (by omega)), V_exceptionDay h1 hn hk, V_exceptionDoor h1 hn hk, i_pers 184 k (x := (184 : Int32)) rfl, i_pers 185 k (x := (185 : Int32)) rfl, nI_1]
      exact ⟨rfl, vp_in_nI (by omega) (by decide), rfl, vp_in_nI (by omega) (by decide), K _⟩
theorem i_log (a k : Nat) {x : Int32} (hx : x = nI a) : x + (3 : Int32) * nI k = nI (a + 3 * k) := by rw [hx, show (3 : Int32) = nI 3 from rfl, pk_mul, nI_add]
theorem se_300 {q : McV} {v : StV} {na : Nat} (hn : na < 2 ^ 30) (h1 : v.2.2.2.2.2.1 = nI na) (r r2 r3 r4 : Int32 × (Nat → Int32)) : ∀ (n k : Nat) (al : Nat → Int32), n + k = 11 → okl_lp_L_seen_300 q v r r2 r3 r4 n (nI k) al ∨ n = 0 := by
  intro n
  induction n with
  | zero => intro k al _; exact Or.inr rfl
  | succ n ih =>
    intro k al h
    left
    unfold okl_lp_L_seen_300
    by_cases g : 10 ≤ k
    · rw [show (10 : Int32) = nI 10 from rfl, if_pos (nI_le g (by omega))]; trivial
    · rw [show (10 : Int32) = nI 10 from rfl, if_neg (nI_ge (by omega) (by decide))]
      have K := fun al => (ih (k + 1) al (by omega)).resolve_right (by omega)
      refine ⟨V_lRok _, fun u hu => ?_⟩
      subst hu
      by_cases g2 : na ≤ k
      · have e0 := rem_0 h1 (by omega) (show k < 2 ^ 31 by omega) (Or.inr g2)
        rcases V_lR (q := q) (v := v) (nI k) with ⟨-, g3⟩ | ⟨g3, -⟩
        · unfold f_L_loggedResult
          rw [g3, if_neg (show ¬ "java/util/NoSuchElementException" = "" by decide), if_pos rfl, if_pos (by decide)]
          trivial
        · rw [e0] at g3
          exact absurd g3 (by decide)
      · split
        · trivial
        · rw [V_loggedPerson h1 (by omega) (by omega) (by omega), V_loggedDoor h1 (by omega) (by omega) (by omega), V_loggedResult h1 (by omega) (by omega) (by omega), i_log 210 k (x := (210 : Int32)) rfl, i_log 211 k (x := (211 : Int32)) rfl, i_log 212 k (x := (212 : Int32)) rfl, nI_1]
          exact ⟨rfl, vp_in_nI (by omega) (by decide), rfl, vp_in_nI (by omega) (by decide), rfl, vp_in_nI (by omega) (by decide), K _⟩
theorem se_366 {q : McV} {v : StV} (r r2 r3 r4 r5 : Int32 × (Nat → Int32)) : ∀ (n k : Nat) (al : Nat → Int32), n + k = 17 → okl_lp_L_seen_366 q v r r2 r3 r4 r5 n (nI k) al ∨ n = 0 := by
  intro n
  induction n with
  | zero => intro k al _; exact Or.inr rfl
  | succ n ih =>
    intro k al h
    left
    unfold okl_lp_L_seen_366
    by_cases g : 16 ≤ k
    · rw [show (16 : Int32) = nI 16 from rfl, if_pos (nI_le g (by omega))]; trivial
    · have K := fun al => (ih (k + 1) al (by omega)).resolve_right (by omega)
      rw [show (16 : Int32) = nI 16 from rfl, if_neg (nI_ge (by omega) (by decide)), show (2 : Int32) = nI 2 from rfl, pk_mul, V_phaseOn (by omega), show (242 : Int32) = nI 242 from rfl, nI_add, nI_1]
      exact ⟨rfl, vp_in_nI (by omega) (by decide), K _⟩
theorem seen_ok {q : McV} {v : StV} (h : FV v) : ok_L_seen q v := by
  obtain ⟨t, c, nd, ne, np, na, -, -, -, -, -, d1, d2, x1, x2, p1, p2, a1, a2, -⟩ := h
  unfold ok_L_seen
  exact ⟨(se_44 6 0 _ rfl).resolve_right (by decide), fun r _ => ⟨(se_67 d1 d2 r 9 0 _ rfl).resolve_right (by decide), fun r2 _ => ⟨(se_184 p1 p2 r r2 7 0 _ rfl).resolve_right (by decide), fun r3 _ => ⟨(se_256 x1 x2 r r2 r3 13 0 _ rfl).resolve_right (by decide), fun r4 _ => ⟨(se_300 a1 a2 r r2 r3 r4 11 0 _ rfl).resolve_right (by decide), fun r5 _ => ⟨(se_366 r r2 r3 r4 r5 17 0 _ rfl).resolve_right (by decide), trivial⟩⟩⟩⟩⟩⟩
theorem al_lp (N : Nat) (a : Nat → Int32) (hN : N ≤ 260) : ∀ (n k : Nat), n + k = 261 → okl_lp_L_areAlike_2 N a N a n (nI k) ∨ n = 0 := by
  intro n
  induction n with
  | zero => intro k _; exact Or.inr rfl
  | succ n ih =>
    intro k h
    left
    unfold okl_lp_L_areAlike_2
    by_cases g : N ≤ k
    · rw [if_pos (nI_le g (by omega))]; trivial
    · rw [if_neg (nI_ge (by omega) (by omega)), if_pos rfl, nI_1]
      exact ⟨vp_in_nI (by omega) (by omega), vp_in_nI (by omega) (by omega), (ih (k + 1) (by omega)).resolve_right (by omega)⟩
theorem al_ok (N : Nat) (a : Nat → Int32) (hN : N ≤ 260) : ok_L_areAlike N a N a := ⟨(al_lp N a hN 261 0 rfl).resolve_right (by decide), trivial⟩
theorem al_1 (n : Nat) (a : Nat → Int32) (m : Nat) (b : Nat → Int32) : f_L_areAlike n a m b = 1 := rfl
theorem seen_n (q : McV) (v : StV) : (f_L_seen q v).1 = 260 := rfl
