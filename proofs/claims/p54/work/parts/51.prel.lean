/-! ===== the relation between the class's values and the reference's row ===== -/
def RD (v : DoV) (s : Nat → Int32) : Prop := ∃ n : Nat, n ≤ 8 ∧ v.1 = nI n ∧ s 2 = nI n ∧ ∀ j, j < 8 → ∃ a b c e : Nat, a < 256 ∧ b < 24 ∧ c < 24 ∧ e < 8 ∧ v.2.1 j = nI a ∧ v.2.2.1 j = nI b ∧ v.2.2.2.1 j = nI c ∧ v.2.2.2.2 j = nI e ∧ s (11 + 4 * j) = nI a ∧ s (11 + 4 * j + 1) = nI b ∧ s (11 + 4 * j + 2) = nI c ∧ s (11 + 4 * j + 3) = nI e
def RE (v : ExV) (s : Nat → Int32) : Prop := ∃ n : Nat, n ≤ 12 ∧ v.1 = nI n ∧ s 4 = nI n ∧ ∀ i, i < n → s (55 + 3 * i) = v.2.2.1 i ∧ s (55 + 3 * i + 1) = v.2.1 i ∧ (v.2.2.2 i = 1 ∧ s (55 + 3 * i + 2) = 1 ∨ v.2.2.2 i = 2 ∧ s (55 + 3 * i + 2) = 0)
def RP (B : Nat) (v : PeV) (s : Nat → Int32) : Prop := ∃ n : Nat, n ≤ 6 ∧ v.1 = nI n ∧ s 3 = nI n ∧ ∀ j, j < 6 → ∃ a e : Nat, a < 256 ∧ e ≤ B ∧ v.2.1 j = nI a ∧ v.2.2 j = nI e ∧ s (43 + 2 * j) = nI a ∧ s (43 + 2 * j + 1) = nI e
def RA (B t : Nat) (v : AuV) (s : Nat → Int32) : Prop := ∃ n : Nat, n ≤ B ∧ v.1 = nI n ∧ s 5 = nI (min n 10) ∧ s 6 + s 7 + s 8 + s 9 + s 10 = nI n ∧ (∀ r, r < 5 → s (6 + r) = v.2.2.2.1 r) ∧ (∀ i, i < min n 10 → s (91 + 3 * i) = v.2.2.2.2.1 ((n - 1 - i) % 10) ∧ s (91 + 3 * i + 1) = v.2.2.2.2.2.1 ((n - 1 - i) % 10) ∧ s (91 + 3 * i + 2) = v.2.2.2.2.2.2 ((n - 1 - i) % 10)) ∧
  ∀ a, a < 8 → ∀ r, r < 8 → (a ≤ t → s (121 + 2 * (8 * a + r)) = v.2.1 (r * 8 + (t - a) % 8) ∧ s (121 + 2 * (8 * a + r) + 1) = v.2.2.1 (r * 8 + (t - a) % 8)) ∧ (t < a → s (121 + 2 * (8 * a + r)) = 0 ∧ s (121 + 2 * (8 * a + r) + 1) = 0)
def RS (B : Nat) (v : StV) (s : Nat → Int32) : Prop := ∃ t c : Nat, t ≤ B ∧ 24 ≤ c ∧ c ≤ 32 ∧ v.1 = nI t ∧ s 0 = nI t ∧ v.2.1 = nI c ∧ s 1 = nI c ∧ RD v.2.2.1 s ∧ RE v.2.2.2.1 s ∧ RP B v.2.2.2.2.1 s ∧ RA B (t / 24) v.2.2.2.2.2 s
theorem RS.mono {B B' : Nat} {v : StV} {s : Nat → Int32} (h : RS B v s) (hB : B ≤ B') : RS B' v s := by
  obtain ⟨t, c, h1, h2, h3, h4, h5, h6, h7, h8, h9, ⟨n, p1, p2, p3, p4⟩, ⟨n', q1, q2⟩⟩ := h
  refine ⟨t, c, by omega, h2, h3, h4, h5, h6, h7, h8, h9, ⟨n, p1, p2, p3, fun j hj => ?_⟩, ⟨n', by omega, q2⟩⟩
  obtain ⟨a, e, r1, r2, r3⟩ := p4 j hj
  exact ⟨a, e, r1, by omega, r3⟩
theorem RS.congr {B : Nat} {v : StV} {s s' : Nat → Int32} (h : RS B v s) (hs : ∀ j, j < 249 → s' j = s j) : RS B v s' := by
  obtain ⟨t, c, h1, h2, h3, h4, h5, h6, h7, ⟨nd, d1, d2, d3, d4⟩, ⟨ne, e1, e2, e3, e4⟩, ⟨n, p1, p2, p3, p4⟩, ⟨na, q1, q2, q3, q4, q5, q6, q7⟩⟩ := h
  refine ⟨t, c, h1, h2, h3, h4, ?_, h6, ?_, ⟨nd, d1, d2, ?_, fun j hj => ?_⟩, ⟨ne, e1, e2, ?_, fun i hi => ?_⟩, ⟨n, p1, p2, ?_, fun j hj => ?_⟩, ⟨na, q1, q2, ?_, ?_, fun r hr => ?_, fun i hi => ?_, fun a ha r hr => ?_⟩⟩
  · rw [hs _ (by omega)]; exact h5
  · rw [hs _ (by omega)]; exact h7
  · rw [hs _ (by omega)]; exact d3
  · rw [hs _ (by omega), hs _ (by omega), hs _ (by omega), hs _ (by omega)]; exact d4 j hj
  · rw [hs _ (by omega)]; exact e3
  · rw [hs _ (by omega), hs _ (by omega), hs _ (by omega)]; exact e4 i hi
  · rw [hs _ (by omega)]; exact p3
  · rw [hs _ (by omega), hs _ (by omega)]; exact p4 j hj
  · rw [hs _ (by omega)]; exact q3
  · rw [hs _ (by omega), hs _ (by omega), hs _ (by omega), hs _ (by omega), hs _ (by omega)]; exact q4
  · rw [hs _ (by omega)]; exact q5 r hr
  · have hi2 : i < 10 := by omega
    rw [hs _ (by omega), hs _ (by omega), hs _ (by omega)]; exact q6 i hi
  · rw [hs _ (by omega), hs _ (by omega)]; exact q7 a ha r hr
theorem RS.copy {B : Nat} {o : StV} {s : Nat → Int32} (v : StV) (h : RS B o s) : RS B (f_X8_copyFrom v o) s := h
/-! ===== the reference's small functions ===== -/
theorem in_lit (k : Nat) (hk : k < 249) : vp_in (nI k) 249 := vp_in_nI hk (by decide)
theorem f_isInI (x lo hi : Int32) : f_X10_isIn x lo hi = if x < lo then 0 else if hi < x then 0 else 1 := rfl
theorem m_of (d : MoV) {j w : Nat} (hj : j < 8) (hw : w < 4) : f_X10_of d (nI j) (nI w) = d.1 (11 + 4 * j + w) ∧ ok_X10_of d (nI j) (nI w) := by
  unfold f_X10_of ok_X10_of
  rw [q_11, q_4, pk_mul, nI_add, nI_add, nI_clamp (by omega)]
  exact ⟨rfl, in_lit _ (by omega), trivial⟩
theorem m_ofP (d : MoV) {j w : Nat} (hj : j < 6) (hw : w < 2) : f_X10_ofPerson d (nI j) (nI w) = d.1 (43 + 2 * j + w) ∧ ok_X10_ofPerson d (nI j) (nI w) := by
  unfold f_X10_ofPerson ok_X10_ofPerson
  rw [q_43, q_2, pk_mul, nI_add, nI_add, nI_clamp (by omega)]
  exact ⟨rfl, in_lit _ (by omega), trivial⟩
theorem m_ofE (d : MoV) {j w : Nat} (hj : j < 12) (hw : w < 3) : f_X10_ofException d (nI j) (nI w) = d.1 (55 + 3 * j + w) ∧ ok_X10_ofException d (nI j) (nI w) := by
  unfold f_X10_ofException ok_X10_ofException
  rw [q_55, q_3, pk_mul, nI_add, nI_add, nI_clamp (by omega)]
  exact ⟨rfl, in_lit _ (by omega), trivial⟩
theorem m_thr (d : MoV) (b : Bool) (k : Int32) : f_X10_isThrown d (if b then 1 else 0) k = mo5 d (if b then k else 0) := by
  unfold f_X10_isThrown
  cases b <;> rfl
theorem m_thr0 (d : MoV) (k : Int32) : f_X10_isThrown d 0 k = mo5 d 0 := rfl
theorem m_thr1 (d : MoV) (k : Int32) : f_X10_isThrown d 1 k = mo5 d k := rfl
theorem h_do (v : DoV) {n : Nat} (hn : n ≤ 8) (h : v.1 = nI n) (x : Int32) : f_X2_holds v x = 0 ∨ f_X2_holds v x = 1 ∧ ∃ j, j < n ∧ x = nI j := by
  unfold f_X2_holds
  rw [h]
  rcases q_arg x (show n < 2 ^ 31 by omega) with g | g | ⟨j, g, rfl⟩
  · exact Or.inl (if_pos g)
  · left; rw [if_pos g, ite_self]
  · right
    rw [if_neg (nI_pos (by omega)), if_neg (nI_ge g (by omega))]
    exact ⟨rfl, j, g, rfl⟩
theorem h_pe (v : PeV) {n : Nat} (hn : n ≤ 6) (h : v.1 = nI n) (x : Int32) : f_X5_holds v x = 0 ∨ f_X5_holds v x = 1 ∧ ∃ j, j < n ∧ x = nI j := by
  unfold f_X5_holds
  rw [h]
  rcases q_arg x (show n < 2 ^ 31 by omega) with g | g | ⟨j, g, rfl⟩
  · exact Or.inl (if_pos g)
  · left; rw [if_pos g, ite_self]
  · right
    rw [if_neg (nI_pos (by omega)), if_neg (nI_ge g (by omega))]
    exact ⟨rfl, j, g, rfl⟩
theorem h_ex (v : ExV) {n : Nat} (hn : n ≤ 12) (h : v.1 = nI n) (x : Int32) : f_X1_holds v x = 0 ∨ f_X1_holds v x = 1 ∧ ∃ j, j < n ∧ x = nI j := by
  unfold f_X1_holds
  rw [h]
  rcases q_arg x (show n < 2 ^ 31 by omega) with g | g | ⟨j, g, rfl⟩
  · exact Or.inl (if_pos g)
  · left; rw [if_pos g, ite_self]
  · right
    rw [if_neg (nI_pos (by omega)), if_neg (nI_ge g (by omega))]
    exact ⟨rfl, j, g, rfl⟩
theorem m_door {v : DoV} {d : MoV} (h : RD v d.1) (x : Int32) : f_X10_isDoor d x = f_X2_holds v x := by
  obtain ⟨n, hn, h1, h2, -⟩ := h
  unfold f_X10_isDoor f_X10_isIn f_X2_holds
  simp only [show ((2 : Int32).toNatClampNeg) = 2 from rfl, h2, h1, q_pred (show n < 2 ^ 31 by omega) x]
theorem m_person {B : Nat} {v : PeV} {d : MoV} (h : RP B v d.1) (x : Int32) : f_X10_isPerson d x = f_X5_holds v x := by
  obtain ⟨n, hn, h1, h2, -⟩ := h
  unfold f_X10_isPerson f_X10_isIn f_X5_holds
  simp only [show ((3 : Int32).toNatClampNeg) = 3 from rfl, h2, h1, q_pred (show n < 2 ^ 31 by omega) x]
theorem m_keyCase (k : Int32) : (f_X10_isKey k = 0 ∧ (k < 0 ∨ 8 ≤ k)) ∨ (f_X10_isKey k = 1 ∧ ∃ j, j < 8 ∧ k = nI j) := by
  unfold f_X10_isKey f_X10_isIn
  rcases q_arg k (show 8 < 2 ^ 31 by omega) with g | g | ⟨j, g, rfl⟩
  · left; exact ⟨if_pos g, Or.inl g⟩
  · left
    refine ⟨?_, Or.inr g⟩
    have h1 := Int32.le_iff_toInt_le.mp g
    rw [nI_toInt (by omega)] at h1
    rw [if_neg, if_pos]
    · rw [Int32.lt_iff_toInt_lt, show (7 : Int32).toInt = 7 from rfl]; omega
    · rw [Int32.lt_iff_toInt_lt, show (0 : Int32).toInt = 0 from rfl]; omega
  · right
    refine ⟨?_, j, g, rfl⟩
    rw [if_neg (nI_pos (by omega)), if_neg (by rw [q_7, nI_ltI (by omega) (by omega)]; omega)]
/-! copies of the reference -/
theorem m_copies_lp {fn gn i j : Nat} (f g0 : Nat → Int32) (hf : i + 249 ≤ fn) (hg : j + 249 ≤ gn) (hF : fn < 2 ^ 30) (hG : gn < 2 ^ 30) : ∀ (k x : Nat) (g : Nat → Int32), x + k = 250 → (∀ q, (∀ y, y < 249 → q ≠ j + y) → g q = g0 q) → (∀ y, y < x → y < 249 → g (j + y) = f (i + y)) →
    (k ≠ 0 → lp_X10_copies_3 fn f (nI i) gn g0 (nI j) k (nI x) g = fun q => if j ≤ q ∧ q < j + 249 then f (i + (q - j)) else g0 q) ∧ okl_lp_X10_copies_3 fn f (nI i) gn g0 (nI j) k (nI x) g := by
  intro k
  induction k with
  | zero => intro x g _ _ _; exact ⟨fun h => absurd rfl h, trivial⟩
  | succ k ih =>
    intro x g hx h1 h2
    show (_ → (if (249 : Int32) ≤ nI x then g else lp_X10_copies_3 fn f (nI i) gn g0 (nI j) k (nI x + 1) (upd g (nI j + nI x).toNatClampNeg (f (nI i + nI x).toNatClampNeg))) = _) ∧ (if (249 : Int32) ≤ nI x then True else (vp_in (nI i + nI x) fn ∧ (vp_in (nI j + nI x) gn ∧ okl_lp_X10_copies_3 fn f (nI i) gn g0 (nI j) k (nI x + 1) (upd g (nI j + nI x).toNatClampNeg (f (nI i + nI x).toNatClampNeg)))))
    rw [q_249]
    by_cases hk : 249 ≤ x
    · rw [if_pos (nI_le hk (by omega)), if_pos (nI_le hk (by omega))]
      refine ⟨fun _ => ?_, trivial⟩
      funext q
      by_cases hq : j ≤ q ∧ q < j + 249
      · rw [if_pos hq]
        have := h2 (q - j) (by omega) (by omega)
        rw [show j + (q - j) = q by omega] at this
        exact this
      · rw [if_neg hq]; exact h1 q (fun y hy e => hq (by omega))
    · rw [if_neg (nI_ge (by omega) (by omega)), if_neg (nI_ge (by omega) (by omega)), nI_add, nI_add, nI_1, nI_clamp (by omega), nI_clamp (by omega)]
      have := ih (x + 1) (upd g (j + x) (f (i + x))) (by omega) (fun q hq => by rw [upd_ne _ _ (hq x (by omega))]; exact h1 q hq) (fun y hy hy2 => by
        by_cases e : y = x
        · subst e; exact upd_eq _ _ _
        · rw [upd_ne _ _ (by omega)]; exact h2 y (by omega) hy2)
      exact ⟨fun _ => this.1 (by omega), vp_in_nI (by omega) (by omega), vp_in_nI (by omega) (by omega), this.2⟩
theorem m_copies {fn gn i j : Nat} (f g : Nat → Int32) (hf : i + 249 ≤ fn) (hg : j + 249 ≤ gn) (hF : fn < 2 ^ 30) (hG : gn < 2 ^ 30) : f_X10_copies fn f (nI i) gn g (nI j) = (fun q => if j ≤ q ∧ q < j + 249 then f (i + (q - j)) else g q) ∧ ok_X10_copies fn f (nI i) gn g (nI j) := by
  have := m_copies_lp f g hf hg hF hG 250 0 g rfl (fun _ _ => rfl) (fun y hy => absurd hy (Nat.not_lt_zero y))
  exact ⟨this.1 (by decide), this.2⟩
theorem m_copies2_lp {fn i j : Nat} (f0 : Nat → Int32) (hij : j + 249 ≤ i) (hf : i + 249 ≤ fn) (hF : fn < 2 ^ 30) : ∀ (k x : Nat) (g : Nat → Int32), x + k = 250 → (∀ q, (∀ y, y < 249 → q ≠ j + y) → g q = f0 q) → (∀ y, y < x → y < 249 → g (j + y) = f0 (i + y)) →
    (k ≠ 0 → lp_X10_copies2_3 fn f0 (nI i) (nI j) k (nI x) g = fun q => if j ≤ q ∧ q < j + 249 then f0 (i + (q - j)) else f0 q) ∧ okl_lp_X10_copies2_3 fn f0 (nI i) (nI j) k (nI x) g := by
  intro k
  induction k with
  | zero => intro x g _ _ _; exact ⟨fun h => absurd rfl h, trivial⟩
  | succ k ih =>
    intro x g hx h1 h2
    show (_ → (if (249 : Int32) ≤ nI x then g else lp_X10_copies2_3 fn f0 (nI i) (nI j) k (nI x + 1) (upd g (nI j + nI x).toNatClampNeg (g (nI i + nI x).toNatClampNeg))) = _) ∧ (if (249 : Int32) ≤ nI x then True else (vp_in (nI i + nI x) fn ∧ (vp_in (nI j + nI x) fn ∧ okl_lp_X10_copies2_3 fn f0 (nI i) (nI j) k (nI x + 1) (upd g (nI j + nI x).toNatClampNeg (g (nI i + nI x).toNatClampNeg)))))
    rw [q_249]
    by_cases hk : 249 ≤ x
    · rw [if_pos (nI_le hk (by omega)), if_pos (nI_le hk (by omega))]
      refine ⟨fun _ => ?_, trivial⟩
      funext q
      by_cases hq : j ≤ q ∧ q < j + 249
      · rw [if_pos hq]
        have := h2 (q - j) (by omega) (by omega)
        rw [show j + (q - j) = q by omega] at this
        exact this
      · rw [if_neg hq]; exact h1 q (fun y hy e => hq (by omega))
    · rw [if_neg (nI_ge (by omega) (by omega)), if_neg (nI_ge (by omega) (by omega)), nI_add, nI_add, nI_1, nI_clamp (by omega), nI_clamp (by omega)]
      have e0 : g (i + x) = f0 (i + x) := h1 _ (fun y hy => by omega)
      rw [e0]
      have := ih (x + 1) (upd g (j + x) (f0 (i + x))) (by omega) (fun q hq => by rw [upd_ne _ _ (hq x (by omega))]; exact h1 q hq) (fun y hy hy2 => by
        by_cases e : y = x
        · subst e; exact upd_eq _ _ _
        · rw [upd_ne _ _ (by omega)]; exact h2 y (by omega) hy2)
      exact ⟨fun _ => this.1 (by omega), vp_in_nI (by omega) (by omega), vp_in_nI (by omega) (by omega), this.2⟩
theorem m_copies2 {fn i j : Nat} (f : Nat → Int32) (hij : j + 249 ≤ i) (hf : i + 249 ≤ fn) (hF : fn < 2 ^ 30) : f_X10_copies2 fn f (nI i) (nI j) = (fun q => if j ≤ q ∧ q < j + 249 then f (i + (q - j)) else f q) ∧ ok_X10_copies2 fn f (nI i) (nI j) := by
  have := m_copies2_lp f hij hf hF 250 0 f rfl (fun _ _ => rfl) (fun y hy => absurd hy (Nat.not_lt_zero y))
  exact ⟨this.1 (by decide), this.2⟩
