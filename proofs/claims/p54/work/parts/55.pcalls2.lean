/-! ===== the calls that only read, with loops ===== -/
theorem c_ring_lp {B : Nat} {v : StV} {d : MoV} (h : RS B v d.1) {nd j : Nat} (hn : nd ≤ 8) (h1 : v.2.2.1.1 = nI nd) (h2 : d.1 2 = nI nd) (hj : j < 6) (d0 : MoV) : ∀ (k i : Nat) (a : Int32), i + k = nd + 1 →
    okl_lp_X10_doorsOfRing_27 d0 (nI j) d k (nI i) a ∧ (k ≠ 0 → lp_X10_doorsOfRing_27 d0 (nI j) d k (nI i) a = (lp_X8_countDoorsOfRing_4 v (nI j) k (nI i) a, d)) := by
  obtain ⟨t, c, -, -, -, -, -, -, -, hD, hE, hP, hA⟩ := h
  intro k
  induction k with
  | zero => intro i a _; exact ⟨trivial, fun h => absurd rfl h⟩
  | succ k ih =>
    intro i a hi
    unfold okl_lp_X10_doorsOfRing_27 lp_X10_doorsOfRing_27 lp_X8_countDoorsOfRing_4
    rw [show ((2 : Int32).toNatClampNeg) = 2 from rfl, h2, h1]
    by_cases hik : nd ≤ i
    · have g := nI_le hik (show i < 2 ^ 31 by omega)
      rw [if_pos g, if_pos g, if_pos g]
      exact ⟨trivial, fun _ => rfl⟩
    · have g := nI_ge (show i < nd by omega) (show nd < 2 ^ 31 by omega)
      obtain ⟨a1, a2, -⟩ := c_key hD (show i < 8 by omega)
      obtain ⟨b1, b2, -⟩ := c_has hP hj (f_X10_of d (nI i) 3)
      rw [if_neg g, if_neg g, if_neg g, a1, b1, nI_1]
      have ih0 := ih (i + 1) (a + 0) (by omega)
      have ih1 := ih (i + 1) (a + 1) (by omega)
      have e0 : a + 0 = a := by rw [Int32.add_zero]
      rw [e0] at ih0
      refine ⟨⟨a2, b2, ?_⟩, fun _ => ?_⟩
      · split
        · rw [e0]; exact ih0.1
        · exact ih1.1
      · split
        · rw [e0]; exact ih0.2 (by omega)
        · exact ih1.2 (by omega)
theorem c_open_lp {B : Nat} {v : StV} {d : MoV} (h : RS B v d.1) (hB : B < 2 ^ 30) {nd j : Nat} (hn : nd ≤ 8) (h1 : v.2.2.1.1 = nI nd) (h2 : d.1 2 = nI nd) (hj : j < 6) (d0 : MoV) : ∀ (k i : Nat) (a : Int32), i + k = nd + 1 →
    okl_lp_X10_openDoorsFor_27 d0 (nI j) d k (nI i) a ∧ (k ≠ 0 → lp_X10_openDoorsFor_27 d0 (nI j) d k (nI i) a = (lp_X8_countOpenDoors_4 v (nI j) k (nI i) a, d)) := by
  intro k
  induction k with
  | zero => intro i a _; exact ⟨trivial, fun h => absurd rfl h⟩
  | succ k ih =>
    intro i a hi
    unfold okl_lp_X10_openDoorsFor_27 lp_X10_openDoorsFor_27 lp_X8_countOpenDoors_4
    rw [show ((2 : Int32).toNatClampNeg) = 2 from rfl, h2, h1]
    by_cases hik : nd ≤ i
    · have g := nI_le hik (show i < 2 ^ 31 by omega)
      rw [if_pos g, if_pos g, if_pos g]
      exact ⟨trivial, fun _ => rfl⟩
    · have g := nI_ge (show i < nd by omega) (show nd < 2 ^ 31 by omega)
      obtain ⟨b1, b2, -⟩ := c_res h (by omega) hj (show i < 8 by omega)
      rw [if_neg g, if_neg g, if_neg g, b1, nI_1]
      have ih0 := ih (i + 1) (a + 0) (by omega)
      have ih1 := ih (i + 1) (a + 1) (by omega)
      have e0 : a + 0 = a := by rw [Int32.add_zero]
      rw [e0] at ih0
      refine ⟨⟨b2, ?_⟩, fun _ => ?_⟩
      · split
        · exact ih1.1
        · rw [e0]; exact ih0.1
      · split
        · exact ih1.2 (by omega)
        · rw [e0]; exact ih0.2 (by omega)
theorem R_doorsOfRing {B : Nat} {q : McV} {v sn : StV} {hi : HiV} {hs : Nat → StV} {tb nt : SbV} {d : MoV} (h : RW B q v sn hi hs tb nt d) (x : Int32) : ok_X10_doorsOfRing d x ∧ RC ["java/lang/IndexOutOfBoundsException"] (f_X9_doorsOfRing q v x).1 (f_X9_doorsOfRing q v x).2 (f_X10_doorsOfRing d x).1 (f_X10_doorsOfRing d x).2.2.2.2.2.2.1 ∧ RW B q v sn hi hs tb nt (f_X10_doorsOfRing d x).2 := by
  obtain ⟨t, c, ht, hc, hc2, e1, e2, e3, e4, hD, hE, hP, hA⟩ := id h.1
  obtain ⟨nd, d1, d2, d3, d4⟩ := id hD
  have ef : (((d.1 (2 : Int32).toNatClampNeg)).toInt - ((0 : Int32)).toInt).toNat + 1 = nd + 1 := by
    rw [show ((2 : Int32).toNatClampNeg) = 2 from rfl, d3, nI_toInt (by omega), show (0 : Int32).toInt = 0 from rfl]; omega
  refine g_pers h x [] ("", f_X8_countDoorsOfRing v x) (lp_X10_doorsOfRing_27 d x (mo5 d 0) ((((d.1 (2 : Int32).toNatClampNeg)).toInt - ((0 : Int32)).toInt).toNat + 1) 0 0) (okl_lp_X10_doorsOfRing_27 d x (mo5 d 0) ((((d.1 (2 : Int32).toNatClampNeg)).toInt - ((0 : Int32)).toInt).toNat + 1) 0 0) (fun j hj e => ?_)
  subst e
  obtain ⟨a1, a2⟩ := c_ring_lp (d := mo5 d 0) h.1 d1 d2 d3 hj d (nd + 1) 0 0 (by omega)
  have a2 := a2 (by omega)
  rw [ef]
  refine ⟨a1, ?_, ?_⟩
  · rw [show lp_X10_doorsOfRing_27 d (nI j) (mo5 d 0) (nd + 1) 0 0 = _ from a2]
    refine RC.ok ?_
    unfold f_X8_countDoorsOfRing
    rw [d2, nI_toInt (by omega), show (0 : Int32).toInt = 0 from rfl, show ((nd : Int) - 0).toNat + 1 = nd + 1 by omega]
    rfl
  · rw [show lp_X10_doorsOfRing_27 d (nI j) (mo5 d 0) (nd + 1) 0 0 = _ from a2]
    exact h.thr 0
theorem R_openDoorsFor {B : Nat} {q : McV} {v sn : StV} {hi : HiV} {hs : Nat → StV} {tb nt : SbV} {d : MoV} (h : RW B q v sn hi hs tb nt d) (x : Int32) (hB : B < 2 ^ 30) : ok_X10_openDoorsFor d x ∧ RC ["java/lang/IndexOutOfBoundsException"] (f_X9_openDoorsFor q v x).1 (f_X9_openDoorsFor q v x).2 (f_X10_openDoorsFor d x).1 (f_X10_openDoorsFor d x).2.2.2.2.2.2.1 ∧ RW B q v sn hi hs tb nt (f_X10_openDoorsFor d x).2 := by
  obtain ⟨t, c, ht, hc, hc2, e1, e2, e3, e4, hD, hE, hP, hA⟩ := id h.1
  obtain ⟨nd, d1, d2, d3, d4⟩ := id hD
  have ef : (((d.1 (2 : Int32).toNatClampNeg)).toInt - ((0 : Int32)).toInt).toNat + 1 = nd + 1 := by
    rw [show ((2 : Int32).toNatClampNeg) = 2 from rfl, d3, nI_toInt (by omega), show (0 : Int32).toInt = 0 from rfl]; omega
  refine g_pers h x [] ("", f_X8_countOpenDoors v x) (lp_X10_openDoorsFor_27 d x (mo5 d 0) ((((d.1 (2 : Int32).toNatClampNeg)).toInt - ((0 : Int32)).toInt).toNat + 1) 0 0) (okl_lp_X10_openDoorsFor_27 d x (mo5 d 0) ((((d.1 (2 : Int32).toNatClampNeg)).toInt - ((0 : Int32)).toInt).toNat + 1) 0 0) (fun j hj e => ?_)
  subst e
  obtain ⟨a1, a2⟩ := c_open_lp (d := mo5 d 0) h.1 hB d1 d2 d3 hj d (nd + 1) 0 0 (by omega)
  have a2 := a2 (by omega)
  rw [ef]
  refine ⟨a1, ?_, ?_⟩
  · rw [show lp_X10_openDoorsFor_27 d (nI j) (mo5 d 0) (nd + 1) 0 0 = _ from a2]
    refine RC.ok ?_
    unfold f_X8_countOpenDoors
    rw [d2, nI_toInt (by omega), show (0 : Int32).toInt = 0 from rfl, show ((nd : Int) - 0).toNat + 1 = nd + 1 by omega]
    rfl
  · rw [show lp_X10_openDoorsFor_27 d (nI j) (mo5 d 0) (nd + 1) 0 0 = _ from a2]
    exact h.thr 0
theorem R_wouldEnter {B : Nat} {q : McV} {v sn : StV} {hi : HiV} {hs : Nat → StV} {tb nt : SbV} {d : MoV} (h : RW B q v sn hi hs tb nt d) (x y : Int32) (hB : B < 2 ^ 30) : ok_X10_wouldEnter d x y ∧ RC ["java/lang/IndexOutOfBoundsException"] (f_X9_wouldEnter q v x y).1 (f_X9_wouldEnter q v x y).2 (f_X10_wouldEnter d x y).1 (f_X10_wouldEnter d x y).2.2.2.2.2.2.1 ∧ RW B q v sn hi hs tb nt (f_X10_wouldEnter d x y).2 := by
  obtain ⟨t, c, ht, hc, hc2, e1, e2, e3, e4, hD, hE, hP, hA⟩ := id h.1
  obtain ⟨np, p1, p2, p3, p4⟩ := id hP
  obtain ⟨nd, d1, d2, d3, d4⟩ := id hD
  unfold ok_X10_wouldEnter f_X9_wouldEnter f_X10_wouldEnter f_X8_faultOfAttempt
  rw [m_person hP, m_door hD]
  rcases h_pe v.2.2.2.2.1 p1 p2 x with e | ⟨e, i, hi, rfl⟩
  · simp only [e, eq_self, ite_true, ite_false, tf1, S1, m_thr1]
    exact ⟨trivial, RC.x1 (by decide), h.thr 1⟩
  · rcases h_do v.2.2.1 d1 d2 y with g | ⟨g, j, hj, rfl⟩
    · simp only [e, g, L10, eq_self, ite_true, ite_false, tf1, S1, m_thr1]
      exact ⟨trivial, RC.x1 (by decide), h.thr 1⟩
    · simp only [e, g, L10, eq_self, ite_true, ite_false, tf0, m_thr0]
      obtain ⟨a1, a2, -⟩ := c_res (d := mo5 d 0) h.1 (by omega) (show i < 6 by omega) (show j < 8 by omega)
      exact ⟨⟨a2, trivial⟩, RC.ok a1, h.thr 0⟩
/-! persons by entries -/
theorem q_dif {a b : Nat} (ha : a < 2 ^ 30) (hb : b < 2 ^ 30) : ((0 : Int32) < nI a - nI b ↔ nI b < nI a) ∧ (nI a - nI b = 0 ↔ nI a = nI b) := by
  have h1 : (nI a - nI b).toInt = (a : Int) - b := pk_sub_toInt ha hb
  constructor
  · rw [Int32.lt_iff_toInt_lt, h1, nI_ltI (by omega) (by omega), show (0 : Int32).toInt = 0 from rfl]; omega
  · rw [← Int32.toInt_inj, h1, nI_eq (by omega) (by omega), show (0 : Int32).toInt = 0 from rfl]; omega
theorem c_ahead_lp {B : Nat} {v : PeV} {d : MoV} (h : RP B v d.1) (hB : B < 2 ^ 30) {n : Nat} (hn : n ≤ 6) (h1 : v.1 = nI n) (h2 : d.1 3 = nI n) {j : Nat} (hj : j < 6) (rk : Int32) : ∀ (k i : Nat) (a : Int32), i + k = n + 1 →
    okl_lp_X10_personByEntries_17 d rk (nI j) k (nI i) a ∧ (k ≠ 0 → (lp_X10_personByEntries_17 d rk (nI j) k (nI i) a).2 = lp_X5_countAhead_14 v (nI j) k (nI i) a) := by
  intro k
  induction k with
  | zero => intro i a _; exact ⟨trivial, fun h => absurd rfl h⟩
  | succ k ih =>
    intro i a hi
    unfold okl_lp_X10_personByEntries_17 lp_X10_personByEntries_17 lp_X5_countAhead_14
    rw [show ((3 : Int32).toNatClampNeg) = 3 from rfl, h2, h1]
    by_cases hik : n ≤ i
    · have g := nI_le hik (show i < 2 ^ 31 by omega)
      rw [if_pos g, if_pos g, if_pos g]
      exact ⟨trivial, fun _ => rfl⟩
    · have g := nI_ge (show i < n by omega) (show n < 2 ^ 31 by omega)
      have hi6 : i < 6 := by omega
      obtain ⟨p1, p2⟩ := m_ofP d hi6 (w := 1) (by decide)
      obtain ⟨q1, q2⟩ := m_ofP d hj (w := 1) (by decide)
      obtain ⟨m, -, -, -, h4⟩ := id h
      obtain ⟨b, x, -, hx, -, x1, -, x2⟩ := h4 i hi6
      obtain ⟨b', y, -, hy, -, y1, -, y2⟩ := h4 j hj
      have p1 : f_X10_ofPerson d (nI i) 1 = nI x := p1.trans x2
      have q1 : f_X10_ofPerson d (nI j) 1 = nI y := q1.trans y2
      obtain ⟨w1, w2⟩ := q_dif (a := x) (b := y) (by omega) (by omega)
      rw [if_neg g, if_neg g, if_neg g, n_at _ hi6 (by decide), n_at _ hj (by decide), p1, q1, x1, y1, nI_1]
      have ih0 := ih (i + 1) (a + 0) (by omega)
      have ih1 := ih (i + 1) (a + 1) (by omega)
      have e0 : a + 0 = a := by rw [Int32.add_zero]
      rw [e0] at ih0
      simp only [w1, w2, e0]
      refine ⟨⟨p2, q2, ?_⟩, fun _ => ?_⟩
      · split
        · exact ih1.1
        · split
          · split
            · exact ih0.1
            · exact ih1.1
          · exact ih0.1
      · split
        · exact ih1.2 (by omega)
        · split
          · split
            · exact ih0.2 (by omega)
            · exact ih1.2 (by omega)
          · exact ih0.2 (by omega)
theorem c_rank_lp {B : Nat} {v : PeV} {d : MoV} (h : RP B v d.1) (hB : B < 2 ^ 30) {n : Nat} (hn : n ≤ 6) (h1 : v.1 = nI n) (h2 : d.1 3 = nI n) (rk : Int32) : ∀ (k i : Nat), i + k = n + 1 →
    okl_lp_X10_personByEntries_2 d rk k (nI i) ∧ (k ≠ 0 → (lp_X5_personOfRank_2 v rk k (nI i) = -1 ∧ lp_X10_personByEntries_2 d rk k (nI i) = (0, mo5 d 1) ∧ ∀ z, i ≤ z → z < n → f_X5_countAhead v (nI z) ≠ rk) ∨ ∃ z, z < n ∧ lp_X5_personOfRank_2 v rk k (nI i) = nI z ∧ lp_X10_personByEntries_2 d rk k (nI i) = (nI z, mo5 d 0) ∧ f_X5_countAhead v (nI z) = rk) := by
  intro k
  induction k with
  | zero => intro i _; exact ⟨trivial, fun h => absurd rfl h⟩
  | succ k ih =>
    intro i hi
    unfold okl_lp_X10_personByEntries_2 lp_X10_personByEntries_2 lp_X5_personOfRank_2
    rw [show ((3 : Int32).toNatClampNeg) = 3 from rfl, h2, h1]
    by_cases hik : n ≤ i
    · have g := nI_le hik (show i < 2 ^ 31 by omega)
      rw [if_pos g, if_pos g, if_pos g]
      exact ⟨trivial, fun _ => Or.inl ⟨rfl, rfl, fun z hz hz2 => by omega⟩⟩
    · have g := nI_ge (show i < n by omega) (show n < 2 ^ 31 by omega)
      rw [if_neg g, if_neg g, if_neg g, nI_toInt (by omega), show (0 : Int32).toInt = 0 from rfl, show ((n : Int) - 0).toNat + 1 = n + 1 by omega, nI_1]
      obtain ⟨a1, a2⟩ := c_ahead_lp h hB hn h1 h2 (show i < 6 by omega) rk (n + 1) 0 0 (by omega)
      have a1 : okl_lp_X10_personByEntries_17 d rk (nI i) (n + 1) 0 0 := a1
      have a2 : (lp_X10_personByEntries_17 d rk (nI i) (n + 1) 0 0).2 = f_X5_countAhead v (nI i) := by
        unfold f_X5_countAhead
        rw [h1, nI_toInt (by omega), show (0 : Int32).toInt = 0 from rfl, show ((n : Int) - 0).toNat + 1 = n + 1 by omega]
        exact a2 (by omega)
      have ih0 := ih (i + 1) (by omega)
      simp only [a2]
      by_cases hr : f_X5_countAhead v (nI i) = rk
      · rw [if_pos hr, if_pos hr, if_pos hr]
        exact ⟨⟨a1, trivial⟩, fun _ => Or.inr ⟨i, by omega, rfl, rfl, hr⟩⟩
      · rw [if_neg hr, if_neg hr, if_neg hr]
        refine ⟨⟨a1, ih0.1⟩, fun _ => ?_⟩
        rcases ih0.2 (by omega) with ⟨c1, c2, c3⟩ | c
        · refine Or.inl ⟨c1, c2, fun z hz hz2 => ?_⟩
          by_cases ez : z = i
          · subst ez; exact hr
          · exact c3 z (by omega) hz2
        · exact Or.inr c
/-! the ranks of persons are 0 .. n-1, each once -/
def cnt (p : Nat → Bool) : Nat → Nat
  | 0 => 0
  | n + 1 => cnt p n + (if p n = true then 1 else 0)
theorem cnt_le (p : Nat → Bool) : ∀ n, cnt p n ≤ n
  | 0 => Nat.le_refl 0
  | n + 1 => by
    have := cnt_le p n
    show cnt p n + (if p n = true then 1 else 0) ≤ n + 1
    split <;> omega
theorem cnt_lt (p : Nat → Bool) {k : Nat} (hp : p k = false) : ∀ n, k < n → cnt p n < n
  | 0, h => absurd h (Nat.not_lt_zero k)
  | n + 1, h => by
    show cnt p n + (if p n = true then 1 else 0) < n + 1
    by_cases e : k = n
    · subst e
      rw [hp, if_neg (by decide)]
      have := cnt_le p k
      omega
    · have := cnt_lt p hp n (by omega)
      split <;> omega
theorem cnt_mono {p r : Nat → Bool} : ∀ n, (∀ i, i < n → p i = true → r i = true) → cnt p n ≤ cnt r n
  | 0, _ => Nat.le_refl 0
  | n + 1, h => by
    have := cnt_mono n (fun i hi => h i (by omega))
    show cnt p n + (if p n = true then 1 else 0) ≤ cnt r n + (if r n = true then 1 else 0)
    by_cases e : p n = true
    · rw [if_pos e, if_pos (h n (by omega) e)]; omega
    · rw [if_neg e]; omega
theorem cnt_smono {p r : Nat → Bool} {k : Nat} (h1 : p k = false) (h2 : r k = true) : ∀ n, k < n → (∀ i, i < n → p i = true → r i = true) → cnt p n < cnt r n
  | 0, hk, _ => absurd hk (Nat.not_lt_zero k)
  | n + 1, hk, h => by
    show cnt p n + (if p n = true then 1 else 0) < cnt r n + (if r n = true then 1 else 0)
    by_cases e : k = n
    · subst e
      have := cnt_mono (p := p) (r := r) k (fun i hi => h i (by omega))
      rw [h1, h2, if_neg (by decide), if_pos rfl]; omega
    · have := cnt_smono h1 h2 n (by omega) (fun i hi => h i (by omega))
      by_cases g : p n = true
      · rw [if_pos g, if_pos (h n (by omega) g)]; omega
      · rw [if_neg g]; omega
theorem pigeon : ∀ (m : Nat) (f : Nat → Nat), (∀ i, i < m + 1 → f i < m) → ¬ ∀ i j, i < m + 1 → j < m + 1 → f i = f j → i = j
  | 0, f, h => fun _ => absurd (h 0 (by decide)) (Nat.not_lt_zero _)
  | m + 1, f, h => fun inj => by
    have ha := h (m + 1) (by omega)
    refine pigeon m (fun i => if f i = m then f (m + 1) else f i) (fun i hi => ?_) (fun i j hi hj e => ?_)
    · show (if f i = m then f (m + 1) else f i) < m
      have h1 := h i (by omega)
      by_cases e : f i = m
      · rw [if_pos e]
        have : f (m + 1) ≠ m := fun g => by
          have := inj i (m + 1) (by omega) (by omega) (e.trans g.symm)
          omega
        omega
      · rw [if_neg e]; omega
    · have e : (if f i = m then f (m + 1) else f i) = (if f j = m then f (m + 1) else f j) := e
      by_cases g1 : f i = m <;> by_cases g2 : f j = m
      · exact inj i j (by omega) (by omega) (g1.trans g2.symm)
      · rw [if_pos g1, if_neg g2] at e
        have := inj (m + 1) j (by omega) (by omega) e
        omega
      · rw [if_neg g1, if_pos g2] at e
        have := inj i (m + 1) (by omega) (by omega) e
        omega
      · rw [if_neg g1, if_neg g2] at e
        exact inj i j (by omega) (by omega) e
theorem onto {n : Nat} {f : Nat → Nat} (h : ∀ i, i < n → f i < n) (inj : ∀ i j, i < n → j < n → f i = f j → i = j) {r : Nat} (hr : r < n) : ∃ i, i < n ∧ f i = r := by
  by_cases H : ∃ i, i < n ∧ f i = r
  · exact H
  · exfalso
    have hne : ∀ i, i < n → f i ≠ r := fun i hi e => H ⟨i, hi, e⟩
    cases n with
    | zero => exact absurd hr (Nat.not_lt_zero _)
    | succ m =>
      refine pigeon m (fun i => if f i = m then r else f i) (fun i hi => ?_) (fun i j hi hj e => ?_)
      · show (if f i = m then r else f i) < m
        have h1 := h i hi
        have h2 := hne i hi
        split
        · omega
        · omega
      · have e : (if f i = m then r else f i) = (if f j = m then r else f j) := e
        have a1 := hne i hi
        have a2 := hne j hj
        by_cases g1 : f i = m <;> by_cases g2 : f j = m
        · exact inj i j hi hj (g1.trans g2.symm)
        · rw [if_pos g1, if_neg g2] at e; exact absurd e.symm a2
        · rw [if_neg g1, if_pos g2] at e; exact absurd e a1
        · rw [if_neg g1, if_neg g2] at e; exact inj i j hi hj e
/-- person a stands ahead of person b -/
def ahd (y : Nat → Nat) (b a : Nat) : Bool := decide (y b < y a ∨ y a = y b ∧ a < b)
theorem ahd_cnt {v : PeV} {n : Nat} (hn : n ≤ 6) (h1 : v.1 = nI n) {y : Nat → Nat} (hy : ∀ i, i < 6 → v.2.2 i = nI (y i) ∧ y i < 2 ^ 30) {j : Nat} (hj : j < 6) : ∀ (k i : Nat), i + k = n + 1 → k ≠ 0 → lp_X5_countAhead_14 v (nI j) k (nI i) (nI (cnt (ahd y j) i)) = nI (cnt (ahd y j) n) := by
  intro k
  induction k with
  | zero => intro i _ h; exact absurd rfl h
  | succ k ih =>
    intro i hi _
    unfold lp_X5_countAhead_14
    rw [h1]
    by_cases hik : n ≤ i
    · have : i = n := by omega
      subst this
      rw [if_pos (nI_le hik (by omega))]
    · have hi6 : i < 6 := by omega
      have c0 := cnt_le (ahd y j) i
      obtain ⟨y1, y2⟩ := hy i hi6
      obtain ⟨z1, z2⟩ := hy j hj
      have ih := ih (i + 1) (by omega) (by omega)
      have e : cnt (ahd y j) (i + 1) = cnt (ahd y j) i + (if ahd y j i = true then 1 else 0) := rfl
      rw [if_neg (nI_ge (by omega) (by omega)), n_at _ hi6 (by decide), n_at _ hj (by decide), y1, z1, nI_1, nI_1]
      simp only [nI_ltI (show y j < 2 ^ 31 by omega) (show y i < 2 ^ 31 by omega), nI_eq (show y i < 2 ^ 31 by omega) (show y j < 2 ^ 31 by omega), nI_leI (show j < 2 ^ 31 by omega) (show i < 2 ^ 31 by omega)]
      rw [e] at ih
      unfold ahd at ih ⊢
      simp only [decide_eq_true_eq] at ih
      by_cases a1 : y j < y i
      · rw [if_pos a1]
        rw [if_pos (Or.inl a1)] at ih
        exact ih
      · rw [if_neg a1]
        by_cases a2 : y i = y j
        · rw [if_pos a2]
          by_cases a3 : j ≤ i
          · rw [if_pos a3]
            rw [if_neg (fun g => g.elim a1 (fun p => by omega))] at ih
            exact ih
          · rw [if_neg a3]
            rw [if_pos (Or.inr ⟨a2, by omega⟩)] at ih
            exact ih
        · rw [if_neg a2]
          rw [if_neg (fun g => g.elim a1 (fun p => a2 p.1))] at ih
          exact ih
theorem ahd_rank (y : Nat → Nat) (n : Nat) : (∀ i, i < n → cnt (ahd y i) n < n) ∧ ∀ i j, i < n → j < n → cnt (ahd y i) n = cnt (ahd y j) n → i = j := by
  have hs : ∀ i, ahd y i i = false := fun i => by
    unfold ahd
    exact decide_eq_false (fun h => by omega)
  have key : ∀ i j, i < n → ahd y j i = true → cnt (ahd y i) n < cnt (ahd y j) n := fun i j hi h => by
    refine cnt_smono (hs i) h n hi (fun k _ hk => ?_)
    unfold ahd at h hk ⊢
    have h := of_decide_eq_true h
    have hk := of_decide_eq_true hk
    exact decide_eq_true (by omega)
  refine ⟨fun i hi => cnt_lt _ (hs i) n hi, fun i j hi hj e => ?_⟩
  by_cases h : i = j
  · exact h
  · exfalso
    by_cases g : ahd y j i = true
    · have := key i j hi g; omega
    · have g2 : ahd y i j = true := by
        unfold ahd at g ⊢
        have g := mt decide_eq_true g
        exact decide_eq_true (by omega)
      have := key j i hj g2
      omega
theorem R_personByEntries {B : Nat} {q : McV} {v sn : StV} {hi : HiV} {hs : Nat → StV} {tb nt : SbV} {d : MoV} (h : RW B q v sn hi hs tb nt d) (x : Int32) (hB : B < 2 ^ 30) : ok_X10_personByEntries d x ∧ RC ["java/lang/IndexOutOfBoundsException"] (f_X9_personByEntries q v x).1 (f_X9_personByEntries q v x).2 (f_X10_personByEntries d x).1 (f_X10_personByEntries d x).2.2.2.2.2.2.1 ∧ RW B q v sn hi hs tb nt (f_X10_personByEntries d x).2 := by
  obtain ⟨t, c, ht, hc, hc2, e1, e2, e3, e4, hD, hE, hP, hA⟩ := id h.1
  obtain ⟨n, p1, p2, p3, p4⟩ := id hP
  have hy : ∀ i, ∃ a : Nat, i < 6 → v.2.2.2.2.1.2.2 i = nI a ∧ a < 2 ^ 30 := fun i => by
    by_cases hi : i < 6
    · obtain ⟨a, b, -, hb, -, r, -, -⟩ := p4 i hi
      exact ⟨b, fun _ => ⟨r, by omega⟩⟩
    · exact ⟨0, fun h => absurd h hi⟩
  obtain ⟨y, hy⟩ := Classical.axiomOfChoice hy
  have hC : ∀ z, z < n → f_X5_countAhead v.2.2.2.2.1 (nI z) = nI (cnt (ahd y z) n) := fun z hz => by
    unfold f_X5_countAhead
    rw [p2, nI_toInt (by omega), show (0 : Int32).toInt = 0 from rfl, show ((n : Int) - 0).toNat + 1 = n + 1 by omega]
    exact ahd_cnt p1 p2 hy (by omega) (n + 1) 0 (by omega) (by omega)
  obtain ⟨R1, R2⟩ := ahd_rank y n
  obtain ⟨a1, a2⟩ := c_rank_lp hP hB p1 p2 p3 x (n + 1) 0 (by omega)
  have a2 := a2 (by omega)
  have ef : (((d.1 (3 : Int32).toNatClampNeg)).toInt - ((0 : Int32)).toInt).toNat + 1 = n + 1 := by
    rw [show ((3 : Int32).toNatClampNeg) = 3 from rfl, p3, nI_toInt (by omega), show (0 : Int32).toInt = 0 from rfl]; omega
  have ec : f_X5_personOfRank v.2.2.2.2.1 x = lp_X5_personOfRank_2 v.2.2.2.2.1 x (n + 1) (nI 0) := by
    unfold f_X5_personOfRank
    rw [p2, nI_toInt (by omega), show (0 : Int32).toInt = 0 from rfl, show ((n : Int) - 0).toNat + 1 = n + 1 by omega]
    rfl
  unfold ok_X10_personByEntries f_X9_personByEntries f_X10_personByEntries f_X9_requirePerson
  rw [ef, ec]
  refine ⟨a1, ?_⟩
  rcases h_pe v.2.2.2.2.1 p1 p2 x with e | ⟨e, r, hr, rfl⟩
  · rw [e, if_pos rfl, if_neg (by decide)]
    rcases a2 with ⟨b1, b2, -⟩ | ⟨z, hz, b1, b2, b3⟩
    · rw [show lp_X10_personByEntries_2 d x (n + 1) 0 = _ from b2]
      exact ⟨RC.x1 (by decide), h.thr 1⟩
    · exfalso
      rw [hC z hz] at b3
      have := R1 z hz
      subst b3
      unfold f_X5_holds at e
      rw [p2, if_neg (nI_pos (by omega)), if_neg (nI_ge this (by omega))] at e
      exact absurd e (by decide)
  · simp only [e, L10, ite_false, eq_self, ite_true]
    rcases a2 with ⟨b1, b2, b3⟩ | ⟨z, hz, b1, b2, b3⟩
    · exfalso
      obtain ⟨i, hi, hi2⟩ := onto R1 R2 hr
      refine b3 i (by omega) hi ?_
      rw [hC i hi, hi2]
    · rw [b1, show lp_X10_personByEntries_2 d (nI r) (n + 1) 0 = _ from b2]
      exact ⟨RC.ok rfl, h.thr 0⟩
