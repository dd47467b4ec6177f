/-! ===== exceptions of days: adding and lifting ===== -/
def exI (x w : Int32) : Int32 := ((55 : Int32) + ((3 : Int32) * x)) + w
def exT (f : Nat → Int32) (x dr dy op : Int32) : Nat → Int32 := upd (upd (upd f (exI x 0).toNatClampNeg dy) (exI x 1).toNatClampNeg dr) (exI x 2).toNatClampNeg op
def exW (dL : MoV) (x dr dy op : Int32) : Int32 × MoV := (upd (exT dL.1 x dr dy op) (4 : Int32).toNatClampNeg ((exT dL.1 x dr dy op (4 : Int32).toNatClampNeg) + 1) (4 : Int32).toNatClampNeg, mo0 dL (upd (exT dL.1 x dr dy op) (4 : Int32).toNatClampNeg ((exT dL.1 x dr dy op (4 : Int32).toNatClampNeg) + 1)))
def exO (x : Int32) : Prop := vp_in (exI x 0) 249 ∧ (vp_in (exI x 1) 249 ∧ (vp_in (exI x 2) 249 ∧ True))
set_option maxRecDepth 100000 in
theorem exc_step (d : MoV) (dr dy op : Int32) (u4 u9 u14 u24 : MoV) (n : Nat) (x : Int32) (dL : MoV) : lp_X10_excepts_109 d dr dy op u4 u9 u14 u24 (n + 1) x dL = if x ≤ 0 then exW dL x dr dy op else if dy < f_X10_ofException dL (x - 1) 0 then lp_X10_excepts_109 d dr dy op u4 u9 u14 u24 n (x + (-1)) (lp_X10_excepts_156 d dr dy op u4 u9 u14 u24 x dL 4 0 dL).2 else if f_X10_ofException dL (x - 1) 0 = dy then (if f_X10_ofException dL (x - 1) 1 ≤ dr then exW dL x dr dy op else lp_X10_excepts_109 d dr dy op u4 u9 u14 u24 n (x + (-1)) (lp_X10_excepts_156' d dr dy op u4 u9 u14 u24 x dL 4 0 dL).2) else exW dL x dr dy op := rfl
set_option maxRecDepth 100000 in
theorem excO_step (d : MoV) (dr dy op : Int32) (u4 u9 u14 u24 : MoV) (n : Nat) (x : Int32) (dL : MoV) : okl_lp_X10_excepts_109 d dr dy op u4 u9 u14 u24 (n + 1) x dL = if x ≤ 0 then exO x else (ok_X10_ofException dL (x - 1) 0 ∧ (if dy < f_X10_ofException dL (x - 1) 0 then (okl_lp_X10_excepts_156 d dr dy op u4 u9 u14 u24 x dL 4 0 dL ∧ okl_lp_X10_excepts_109 d dr dy op u4 u9 u14 u24 n (x + (-1)) (lp_X10_excepts_156 d dr dy op u4 u9 u14 u24 x dL 4 0 dL).2) else (ok_X10_ofException dL (x - 1) 0 ∧ (if f_X10_ofException dL (x - 1) 0 = dy then (ok_X10_ofException dL (x - 1) 1 ∧ (if f_X10_ofException dL (x - 1) 1 ≤ dr then exO x else (okl_lp_X10_excepts_156' d dr dy op u4 u9 u14 u24 x dL 4 0 dL ∧ okl_lp_X10_excepts_109 d dr dy op u4 u9 u14 u24 n (x + (-1)) (lp_X10_excepts_156' d dr dy op u4 u9 u14 u24 x dL 4 0 dL).2))) else exO x))))  := rfl
/-- three places moved up by one exception -/
def cp3 (g : Nat → Int32) (x : Nat) : Nat → Int32 := upd (upd (upd g (55 + 3 * x) (g (55 + 3 * (x - 1)))) (55 + 3 * x + 1) (g (55 + 3 * (x - 1) + 1))) (55 + 3 * x + 2) (g (55 + 3 * (x - 1) + 2))
theorem exI_n (x w : Nat) : exI (nI x) (nI w) = nI (55 + 3 * x + w) := by
  unfold exI
  rw [q_55, q_3, pk_mul, nI_add, nI_add]
theorem cp3_v (g : Nat → Int32) {x : Nat} (hx : 1 ≤ x) : cp3 g x (55 + 3 * x) = g (55 + 3 * (x - 1)) ∧ cp3 g x (55 + 3 * x + 1) = g (55 + 3 * (x - 1) + 1) ∧ cp3 g x (55 + 3 * x + 2) = g (55 + 3 * (x - 1) + 2) ∧ ∀ q, q < 55 + 3 * x ∨ 58 + 3 * x ≤ q → cp3 g x q = g q := by
  unfold cp3
  refine ⟨?_, ?_, upd_eq _ _ _, fun q hq => ?_⟩
  · rw [upd_ne _ _ (by omega), upd_ne _ _ (by omega), upd_eq]
  · rw [upd_ne _ _ (by omega), upd_eq]
  · rw [upd_ne _ _ (by omega), upd_ne _ _ (by omega), upd_ne _ _ (by omega)]
theorem exc_cp (d : MoV) (dr dy op : Int32) (u4 u9 u14 u24 dL0 u : MoV) (g : Nat → Int32) {x : Nat} (hx : 1 ≤ x) (hx2 : x < 12) :
    ((lp_X10_excepts_156 d dr dy op u4 u9 u14 u24 (nI x) dL0 4 0 (mo0 u g)).2 = mo0 u (cp3 g x) ∧ okl_lp_X10_excepts_156 d dr dy op u4 u9 u14 u24 (nI x) dL0 4 0 (mo0 u g)) ∧ (lp_X10_excepts_156' d dr dy op u4 u9 u14 u24 (nI x) dL0 4 0 (mo0 u g)).2 = mo0 u (cp3 g x) ∧ okl_lp_X10_excepts_156' d dr dy op u4 u9 u14 u24 (nI x) dL0 4 0 (mo0 u g) := by
  have ex : nI x - 1 = nI (x - 1) := by rw [q_1, pk_sub hx]
  have n3 : ∀ w, w < 3 → ((3 : Int32) ≤ nI w) = False := fun w hw => eq_false (nI_ge (b := 3) hw (by decide))
  have y3 : ((3 : Int32) ≤ nI 3) = True := eq_true (nI_le (a := 3) (by decide) (by decide))
  have iE : ∀ w : Nat, ((55 : Int32) + ((3 : Int32) * nI x)) + nI w = nI (55 + 3 * x + w) := fun w => exI_n x w
  have rd : ∀ (f : Nat → Int32) (w : Nat), w < 3 → f_X10_ofException (mo0 u f) (nI (x - 1)) (nI w) = f (55 + 3 * (x - 1) + w) ∧ ok_X10_ofException (mo0 u f) (nI (x - 1)) (nI w) := fun f w hw => m_ofE (mo0 u f) (by omega) hw
  have e0 : (0 : Int32) = nI 0 := rfl
  have cl : ∀ w, w < 3 → (nI (55 + 3 * x + w)).toNatClampNeg = 55 + 3 * x + w := fun w hw => nI_clamp (by omega)
  have st1 : upd (upd (upd g (55 + 3 * x + 0) (g (55 + 3 * (x - 1) + 0))) (55 + 3 * x + 1) (upd g (55 + 3 * x + 0) (g (55 + 3 * (x - 1) + 0)) (55 + 3 * (x - 1) + 1))) (55 + 3 * x + 2) (upd (upd g (55 + 3 * x + 0) (g (55 + 3 * (x - 1) + 0))) (55 + 3 * x + 1) (upd g (55 + 3 * x + 0) (g (55 + 3 * (x - 1) + 0)) (55 + 3 * (x - 1) + 1)) (55 + 3 * (x - 1) + 2)) = cp3 g x := by
    unfold cp3
    rw [upd_ne (upd g _ _) _ (show 55 + 3 * (x - 1) + 2 ≠ 55 + 3 * x + 1 by omega), upd_ne g _ (show 55 + 3 * (x - 1) + 2 ≠ 55 + 3 * x + 0 by omega), upd_ne g _ (show 55 + 3 * (x - 1) + 1 ≠ 55 + 3 * x + 0 by omega)]
    rfl
  have iw : ∀ w, w < 3 → vp_in (nI (55 + 3 * x + w)) 249 := fun w hw => in_lit _ (by omega)
  refine ⟨⟨?_, ?_⟩, ?_, ?_⟩
  · simp only [lp_X10_excepts_156, ex, e0, n3 0 (by decide), n3 1 (by decide), n3 2 (by decide), nI_1, y3, ite_true, ite_false, iE, (rd _ 0 (by decide)).1, (rd _ 1 (by decide)).1, (rd _ 2 (by decide)).1, cl 0 (by decide), cl 1 (by decide), cl 2 (by decide)]
    exact congrArg (mo0 u) st1
  · simp only [okl_lp_X10_excepts_156, ex, e0, n3 0 (by decide), n3 1 (by decide), n3 2 (by decide), nI_1, y3, ite_true, ite_false, iE, (rd _ 0 (by decide)).1, (rd _ 1 (by decide)).1, (rd _ 2 (by decide)).1, (rd _ 0 (by decide)).2, (rd _ 1 (by decide)).2, (rd _ 2 (by decide)).2, iw 0 (by decide), iw 1 (by decide), iw 2 (by decide), and_self, true_and]
  · simp only [lp_X10_excepts_156', ex, e0, n3 0 (by decide), n3 1 (by decide), n3 2 (by decide), nI_1, y3, ite_true, ite_false, iE, (rd _ 0 (by decide)).1, (rd _ 1 (by decide)).1, (rd _ 2 (by decide)).1, cl 0 (by decide), cl 1 (by decide), cl 2 (by decide)]
    exact congrArg (mo0 u) st1
  · simp only [okl_lp_X10_excepts_156', ex, e0, n3 0 (by decide), n3 1 (by decide), n3 2 (by decide), nI_1, y3, ite_true, ite_false, iE, (rd _ 0 (by decide)).1, (rd _ 1 (by decide)).1, (rd _ 2 (by decide)).1, (rd _ 0 (by decide)).2, (rd _ 1 (by decide)).2, (rd _ 2 (by decide)).2, iw 0 (by decide), iw 1 (by decide), iw 2 (by decide), and_self, true_and]
/-- one exception, in both -/
def relE (v : ExV) (s : Nat → Int32) (i : Nat) : Prop := s (55 + 3 * i) = v.2.2.1 i ∧ s (55 + 3 * i + 1) = v.2.1 i ∧ (v.2.2.2 i = 1 ∧ s (55 + 3 * i + 2) = 1 ∨ v.2.2.2 i = 2 ∧ s (55 + 3 * i + 2) = 0)
theorem c_move (v : ExV) {i j : Nat} (hi : i < 12) (hj : j < 12) : f_X1_move v (nI i) (nI j) = (v.1, upd v.2.1 j (v.2.1 i), upd v.2.2.1 j (v.2.2.1 i), upd v.2.2.2 j (v.2.2.2 i)) := by
  unfold f_X1_move
  rw [n_put _ _ hj (by decide), n_put _ _ hj (by decide), n_put _ _ hj (by decide), n_at _ hi (by decide), n_at _ hi (by decide), n_at _ hi (by decide)]
theorem ins_end {k x : Nat} (hk : k < 12) (hx : x ≤ k) (dL : ExV) (u : MoV) (g : Nat → Int32) (dr dy op : Int32) (hop : op = 0 ∨ op = 1) (h1 : dL.1 = nI k) (h4 : g 4 = nI k) (hI : ∀ i, i ≤ k → i ≠ x → relE dL g i) : ∃ g', exW (mo0 u g) (nI x) dr dy op = (nI (k + 1), mo0 u g') ∧ exO (nI x) ∧ (∀ q, q ≠ 4 → q < 55 ∨ 91 ≤ q → g' q = g q) ∧
    (∀ e' : ExV, e' = (dL.1 + 1, upd dL.2.1 x dr, upd dL.2.2.1 x dy, upd dL.2.2.2 x (if op = 0 then 2 else 1)) → e'.1 = nI (k + 1) ∧ RE e' g') := by
  have a0 : exI (nI x) 0 = nI (55 + 3 * x) := exI_n x 0
  have a1 : exI (nI x) 1 = nI (55 + 3 * x + 1) := exI_n x 1
  have a2 : exI (nI x) 2 = nI (55 + 3 * x + 2) := exI_n x 2
  have eT : exT g (nI x) dr dy op = upd (upd (upd g (55 + 3 * x) dy) (55 + 3 * x + 1) dr) (55 + 3 * x + 2) op := by
    unfold exT
    rw [a0, a1, a2, nI_clamp (by omega), nI_clamp (by omega), nI_clamp (by omega)]
  have t4 : exT g (nI x) dr dy op 4 = nI k := by
    rw [eT, upd_ne _ _ (by omega), upd_ne _ _ (by omega), upd_ne _ _ (by omega), h4]
  refine ⟨upd (exT g (nI x) dr dy op) 4 (nI (k + 1)), ?_, ?_, fun q h4 hq => ?_, fun e' he => ?_⟩
  · show (upd (exT g (nI x) dr dy op) 4 (exT g (nI x) dr dy op 4 + 1) 4, mo0 u (upd (exT g (nI x) dr dy op) 4 (exT g (nI x) dr dy op 4 + 1))) = _
    rw [t4, nI_1, upd_eq]
  · unfold exO
    rw [a0, a1, a2]
    exact ⟨in_lit _ (by omega), in_lit _ (by omega), in_lit _ (by omega), trivial⟩
  · rw [upd_ne _ _ h4, eT, upd_ne _ _ (by omega), upd_ne _ _ (by omega), upd_ne _ _ (by omega)]
  · subst he
    have e1 : dL.1 + 1 = nI (k + 1) := by rw [h1, nI_1]
    refine ⟨e1, k + 1, by omega, e1, upd_eq _ _ _, fun i hi => ?_⟩
    have vn : ∀ q, q < 55 + 3 * x ∨ 58 + 3 * x ≤ q → upd (upd (upd g (55 + 3 * x) dy) (55 + 3 * x + 1) dr) (55 + 3 * x + 2) op q = g q := fun q hq => by rw [upd_ne _ _ (by omega), upd_ne _ _ (by omega), upd_ne _ _ (by omega)]
    have v0 : upd (upd (upd g (55 + 3 * x) dy) (55 + 3 * x + 1) dr) (55 + 3 * x + 2) op (55 + 3 * x) = dy := by rw [upd_ne _ _ (by omega), upd_ne _ _ (by omega), upd_eq]
    have v1 : upd (upd (upd g (55 + 3 * x) dy) (55 + 3 * x + 1) dr) (55 + 3 * x + 2) op (55 + 3 * x + 1) = dr := by rw [upd_ne _ _ (by omega), upd_eq]
    have v2 : upd (upd (upd g (55 + 3 * x) dy) (55 + 3 * x + 1) dr) (55 + 3 * x + 2) op (55 + 3 * x + 2) = op := upd_eq _ _ _
    show upd _ 4 _ (55 + 3 * i) = upd dL.2.2.1 x dy i ∧ upd _ 4 _ (55 + 3 * i + 1) = upd dL.2.1 x dr i ∧ (upd dL.2.2.2 x _ i = 1 ∧ upd _ 4 _ (55 + 3 * i + 2) = 1 ∨ upd dL.2.2.2 x _ i = 2 ∧ upd _ 4 _ (55 + 3 * i + 2) = 0)
    rw [upd_ne _ _ (show 55 + 3 * i ≠ 4 by omega), upd_ne _ _ (show 55 + 3 * i + 1 ≠ 4 by omega), upd_ne _ _ (show 55 + 3 * i + 2 ≠ 4 by omega), eT]
    by_cases hix : i = x
    · subst hix
      rw [v0, v1, v2, upd_eq, upd_eq, upd_eq]
      refine ⟨rfl, rfl, ?_⟩
      rcases hop with ho | ho <;> subst ho
      · exact Or.inr ⟨rfl, rfl⟩
      · exact Or.inl ⟨rfl, rfl⟩
    · rw [vn _ (by omega), vn _ (by omega), vn _ (by omega), upd_ne _ _ hix, upd_ne _ _ hix, upd_ne _ _ hix]
      exact hI i (by omega) hix
theorem ins_step (d : ExV) (dr dy op : Int32) (n : Nat) (x : Int32) (dL : ExV) : lp_X1_insert_6 d dr dy op (n + 1) x dL = if x ≤ 0 then (dL.1 + 1, (dL.1 + 1, f_X7_put 12 dL.2.1 x dr, f_X7_put 12 dL.2.2.1 x dy, if op = 0 then f_X7_put 12 dL.2.2.2 x 2 else f_X7_put 12 dL.2.2.2 x 1)) else if f_X1_isAfter dL (x - 1) dr dy = 0 then (dL.1 + 1, (dL.1 + 1, f_X7_put 12 dL.2.1 x dr, f_X7_put 12 dL.2.2.1 x dy, if op = 0 then f_X7_put 12 dL.2.2.2 x 2 else f_X7_put 12 dL.2.2.2 x 1)) else lp_X1_insert_6 d dr dy op n (x + (-1)) (f_X1_move dL (x - 1) x) := by
  by_cases h : op = 0
  · subst h; rfl
  · simp only [lp_X1_insert_6, if_neg h]
theorem ins_lp (d0 : MoV) (u4 u9 u14 u24 u : MoV) (E0 : ExV) (s : Nat → Int32) {k : Nat} (hk : k < 12) (dr dy op : Int32) (hop : op = 0 ∨ op = 1) : ∀ (n x : Nat) (dL : ExV) (g : Nat → Int32), n = x + 1 → x ≤ k → dL.1 = nI k → g 4 = nI k → (∀ q, q < 55 ∨ 91 ≤ q → g q = s q) → (∀ i, i ≤ k → i ≠ x → relE dL g i) →
    ∃ (E' : ExV) (g' : Nat → Int32), lp_X1_insert_6 E0 dr dy op n (nI x) dL = (nI (k + 1), E') ∧ lp_X10_excepts_109 d0 dr dy op u4 u9 u14 u24 n (nI x) (mo0 u g) = (nI (k + 1), mo0 u g') ∧ okl_lp_X10_excepts_109 d0 dr dy op u4 u9 u14 u24 n (nI x) (mo0 u g) ∧ RE E' g' ∧ ∀ q, q ≠ 4 → q < 55 ∨ 91 ≤ q → g' q = s q := by
  intro n
  induction n with
  | zero => intro x dL g h; omega
  | succ n ih =>
    intro x dL g hn hx h1 h4 hfr hI
    obtain ⟨gW, W1, W2, W3, W4⟩ := ins_end hk hx dL u g dr dy op hop h1 h4 hI
    obtain ⟨V1, V2⟩ := W4 _ rfl
    have hx12 : x < 12 := by omega
    have eW : (dL.1 + 1, (dL.1 + 1, f_X7_put 12 dL.2.1 (nI x) dr, f_X7_put 12 dL.2.2.1 (nI x) dy, if op = 0 then f_X7_put 12 dL.2.2.2 (nI x) 2 else f_X7_put 12 dL.2.2.2 (nI x) 1)) = (nI (k + 1), (dL.1 + 1, upd dL.2.1 x dr, upd dL.2.2.1 x dy, upd dL.2.2.2 x (if op = 0 then 2 else 1))) := by
      rw [n_put _ _ hx12 (by decide), n_put _ _ hx12 (by decide), n_put _ _ hx12 (by decide), n_put _ _ hx12 (by decide), h1, nI_1]
      by_cases ho : op = 0
      · rw [if_pos ho, if_pos ho]
      · rw [if_neg ho, if_neg ho]
    have done : ∀ q, q ≠ 4 → q < 55 ∨ 91 ≤ q → gW q = s q := fun q h4 hq => (W3 q h4 hq).trans (hfr q hq)
    rw [ins_step, exc_step, excO_step, eW, W1]
    by_cases hx0 : x = 0
    · subst hx0
      have z : nI 0 ≤ (0 : Int32) := by decide
      rw [if_pos z, if_pos z, if_pos z]
      exact ⟨_, gW, rfl, rfl, W2, V2, done⟩
    · have z : ¬ nI x ≤ (0 : Int32) := nI_nle (by omega) (by omega)
      have ex : nI x - 1 = nI (x - 1) := by rw [q_1, pk_sub (by omega)]
      have em : nI x + (-1) = nI (x - 1) := sb_m1 (by omega)
      obtain ⟨p0, o0⟩ := m_ofE (mo0 u g) (j := x - 1) (w := 0) (by omega) (by decide)
      obtain ⟨p1, o1⟩ := m_ofE (mo0 u g) (j := x - 1) (w := 1) (by omega) (by decide)
      obtain ⟨r0, r1, r2⟩ := hI (x - 1) (by omega) (by omega)
      have p0 : f_X10_ofException (mo0 u g) (nI (x - 1)) 0 = dL.2.2.1 (x - 1) := p0.trans r0
      have p1 : f_X10_ofException (mo0 u g) (nI (x - 1)) 1 = dL.2.1 (x - 1) := p1.trans r1
      have o0 : ok_X10_ofException (mo0 u g) (nI (x - 1)) 0 := o0
      have o1 : ok_X10_ofException (mo0 u g) (nI (x - 1)) 1 := o1
      have ea : f_X1_isAfter dL (nI (x - 1)) dr dy = if dy < dL.2.2.1 (x - 1) then 1 else if dL.2.2.1 (x - 1) = dy then (if dL.2.1 (x - 1) ≤ dr then 0 else 1) else 0 := by
        unfold f_X1_isAfter
        rw [n_at _ (show x - 1 < 12 by omega) (by decide), n_at _ (show x - 1 < 12 by omega) (by decide)]
      obtain ⟨⟨c1, c2⟩, c3, c4⟩ := exc_cp d0 dr dy op u4 u9 u14 u24 (mo0 u g) u g (show 1 ≤ x by omega) hx12
      obtain ⟨v0, v1, v2, v3⟩ := cp3_v g (show 1 ≤ x by omega)
      have step := ih (x - 1) (dL.1, upd dL.2.1 x (dL.2.1 (x - 1)), upd dL.2.2.1 x (dL.2.2.1 (x - 1)), upd dL.2.2.2 x (dL.2.2.2 (x - 1))) (cp3 g x) (by omega) (by omega) h1 ((v3 4 (by omega)).trans h4) (fun q hq => (v3 q (by omega)).trans (hfr q hq)) (fun i hi hix => by
        show cp3 g x (55 + 3 * i) = upd dL.2.2.1 x (dL.2.2.1 (x - 1)) i ∧ cp3 g x (55 + 3 * i + 1) = upd dL.2.1 x (dL.2.1 (x - 1)) i ∧ (upd dL.2.2.2 x (dL.2.2.2 (x - 1)) i = 1 ∧ cp3 g x (55 + 3 * i + 2) = 1 ∨ upd dL.2.2.2 x (dL.2.2.2 (x - 1)) i = 2 ∧ cp3 g x (55 + 3 * i + 2) = 0)
        by_cases e : i = x
        · subst e
          rw [v0, v1, v2, upd_eq, upd_eq, upd_eq]
          exact ⟨r0, r1, r2⟩
        · rw [v3 _ (by omega), v3 _ (by omega), v3 _ (by omega), upd_ne _ _ e, upd_ne _ _ e, upd_ne _ _ e]
          exact hI i hi e)
      rw [if_neg z, if_neg z, if_neg z, ex, em, p0, p1, ea, c_move dL (show x - 1 < 12 by omega) hx12, c1, c3]
      by_cases g1 : dy < dL.2.2.1 (x - 1)
      · rw [if_pos g1, if_neg (show ¬ (1 : Int32) = 0 by decide), if_pos g1, if_pos g1]
        obtain ⟨E', g', k1, k2, k3, k4, k5⟩ := step
        exact ⟨E', g', k1, k2, ⟨o0, c2, k3⟩, k4, k5⟩
      · rw [if_neg g1, if_neg g1, if_neg g1]
        by_cases g2 : dL.2.2.1 (x - 1) = dy
        · rw [if_pos g2, if_pos g2, if_pos g2]
          by_cases g3 : dL.2.1 (x - 1) ≤ dr
          · rw [if_pos g3, if_pos rfl, if_pos g3, if_pos g3]
            exact ⟨_, gW, rfl, rfl, ⟨o0, o0, o1, W2⟩, V2, done⟩
          · rw [if_neg g3, if_neg (show ¬ (1 : Int32) = 0 by decide), if_neg g3, if_neg g3]
            obtain ⟨E', g', k1, k2, k3, k4, k5⟩ := step
            exact ⟨E', g', k1, k2, ⟨o0, o0, o1, c4, k3⟩, k4, k5⟩
        · rw [if_neg g2, if_pos rfl, if_neg g2, if_neg g2]
          exact ⟨_, gW, rfl, rfl, ⟨o0, o0, W2⟩, V2, done⟩
theorem RS.exc {B : Nat} {v : StV} {s s' : Nat → Int32} (h : RS B v s) {E' : ExV} (hE : RE E' s') (hf : ∀ q, q ≠ 4 → q < 55 ∨ 91 ≤ q → s' q = s q) : RS B (v.1, v.2.1, v.2.2.1, E', v.2.2.2.2.1, v.2.2.2.2.2) s' := by
  obtain ⟨t, c, ht, hc, hc2, e1, e2, e3, e4, hD, -, hP, hA⟩ := h
  refine ⟨t, c, ht, hc, hc2, e1, (hf 0 (by decide) (by decide)).trans e2, e3, (hf 1 (by decide) (by decide)).trans e4, hD.congr (fun q hq => hf q (by omega) (by omega)), hE, hP.congr (fun q hq => hf q (by omega) (by omega)), hA.congr (fun q hq => hf q (by omega) (by omega))⟩
theorem C_excepts {B : Nat} {v : StV} {d : MoV} (h : RS B v d.1) (hB : B < 2 ^ 30) (dr dy op : Int32) (hop : op = 0 ∨ op = 1) : CORE B (f_X8_faultOfNewException v dr dy) ((f_X1_insert v.2.2.2.1 dr dy op).1, (v.1, v.2.1, v.2.2.1, (f_X1_insert v.2.2.2.1 dr dy op).2, v.2.2.2.2.1, v.2.2.2.2.2)) ["java/lang/IndexOutOfBoundsException", "java/lang/IllegalArgumentException", "java/lang/UnsupportedOperationException", "java/lang/IllegalStateException"] (ok_X10_excepts d dr dy op) (f_X10_excepts d dr dy op) d := by
  obtain ⟨t, c, ht, hc, hc2, e1, e2, e3, e4, hD, hE, hP, hA⟩ := id h
  obtain ⟨nd, d1, d2, d3, d4⟩ := id hD
  obtain ⟨k, n1, n2, n3, n4⟩ := id hE
  unfold CORE f_X8_faultOfNewException ok_X10_excepts f_X10_excepts
  rw [m_door hD]
  rcases h_do v.2.2.1 d1 d2 dr with e | ⟨e, j, hj, rfl⟩
  · simp only [e, eq_self, ite_true, m_thr1]
    exact ⟨trivial, Or.inl ⟨0, by decide, by decide, rfl, by decide, rfl⟩⟩
  · rcases g_rng dy 0 999 with ⟨r1, r2⟩ | ⟨r1, r2, r3, r4⟩
    · have ef : (if dy < 0 then 2 else if dy ≤ 999 then (if f_X8_today v ≤ dy then (if f_X1_positionOf v.2.2.2.1 (nI j) dy = -1 then (if v.2.2.2.1.1 < 12 then 0 else 4) else 4) else 3) else 2 : Nat) = 2 := by
        unfold f_X9_requireRange at r1
        by_cases h1 : dy < 0
        · rw [if_pos h1]
        · rw [if_neg h1] at r1 ⊢
          by_cases h2 : dy ≤ 999
          · rw [if_pos h2] at r1; exact absurd r1 (by decide)
          · rw [if_neg h2]
      simp only [e, L10, r2, ef, eq_self, ite_true, ite_false, m_thr0, m_thr1]
      exact ⟨trivial, Or.inl ⟨1, by decide, by decide, rfl, by decide, rfl⟩⟩
    · have y1 : (dy < 0) = False := eq_false r3
      have y2 : (dy ≤ 999) = True := eq_true r4
      have td : f_X8_today v = f_X10_today (mo5 (mo5 d 0) 0) := (c_today e1 (by omega)).trans (m_today (d := mo5 (mo5 d 0) 0) e2 (by omega)).symm
      by_cases h3 : f_X8_today v ≤ dy
      · have h3' : (f_X10_today (mo5 (mo5 d 0) 0) ≤ dy) = True := eq_true (td ▸ h3)
        obtain ⟨o1, K⟩ := c_place (d := mo5 (mo5 (mo5 d 0) 0) 0) hE (nI j) dy
        have g4 : ((4 : Int32).toNatClampNeg) = 4 := rfl
        simp only [e, L10, r2, y1, y2, eq_true h3, h3', eq_self, ite_true, ite_false, m_thr0, m_thr1, g4, n3]
        rcases K with ⟨a1, a2⟩ | ⟨n', i, hn', -, hi, a1, a2⟩
        · simp only [a1, a2, eq_self, ite_true, ite_false, eq_false (show ¬ (0 : Int32) ≤ -1 by decide), n2]
          by_cases h12 : k = 12
          · subst h12
            simp only [eq_true (show nI 12 = (12 : Int32) from rfl), eq_false (show ¬ nI 12 < (12 : Int32) by decide), ite_true, ite_false]
            exact ⟨⟨o1, trivial⟩, Or.inl ⟨3, by decide, by decide, rfl, by decide, rfl⟩⟩
          · have hn : (nI k = (12 : Int32)) = False := eq_false (by rw [q_12, nI_eq (by omega) (by omega)]; exact h12)
            have hl : (nI k < (12 : Int32)) = True := eq_true (nI_lt (b := 12) (by omega) (by decide))
            obtain ⟨E', g', k1, k2, k3, k4, k5⟩ := ins_lp d (mo5 d 0) (mo5 (mo5 d 0) 0) (mo5 (mo5 (mo5 d 0) 0) 0) (mo5 (mo5 (mo5 (mo5 d 0) 0) 0) 0) (mo5 d 0) v.2.2.2.1 d.1 (show k < 12 by omega) (nI j) dy op hop (k + 1) k v.2.2.2.1 d.1 rfl (Nat.le_refl k) n2 n3 (fun q _ => rfl) (fun i hi hik => n4 i (by omega))
            simp only [hn, hl, ite_true, ite_false]
            have ei : f_X1_insert v.2.2.2.1 (nI j) dy op = (nI (k + 1), E') := by
              unfold f_X1_insert
              rw [n2, nI_toInt (by omega), show ((k : Int)).toNat + 1 = k + 1 by omega]
              exact k1
            rw [nI_toInt (by omega), show ((k : Int)).toNat + 1 = k + 1 by omega, ei]
            exact ⟨⟨o1, k3⟩, Or.inr ⟨trivial, g', k2, h.exc k4 k5⟩⟩
        · have z : (0 ≤ nI i) = True := eq_true (nI_pos' (by omega))
          have z2 : (nI i = -1) = False := eq_false (fun g => (q_neM (by omega)).mp g)
          simp only [a1, a2, z, z2, ite_true, ite_false]
          exact ⟨⟨o1, trivial⟩, Or.inl ⟨3, by decide, by decide, rfl, by decide, rfl⟩⟩
      · have h3' : (f_X10_today (mo5 (mo5 d 0) 0) ≤ dy) = False := eq_false (fun g => h3 (td ▸ g))
        simp only [e, L10, r2, y1, y2, eq_false h3, h3', eq_self, ite_true, ite_false, m_thr0, m_thr1]
        exact ⟨trivial, Or.inl ⟨2, by decide, by decide, rfl, by decide, rfl⟩⟩
