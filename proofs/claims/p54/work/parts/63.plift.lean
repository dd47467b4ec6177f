/-! lifting -/
def rmF (f : Nat → Int32) (p i : Nat) : Nat → Int32 := fun j => if p ≤ j ∧ j + 1 < i then f (j + 1) else f j
theorem rmF_s (f : Nat → Int32) {p i : Nat} (h : p + 1 ≤ i) : upd (rmF f p i) (i - 1) (rmF f p i i) = rmF f p (i + 1) := by
  funext j
  unfold rmF
  by_cases e : j = i - 1
  · subst e
    rw [upd_eq, if_neg (by omega), if_pos (by omega), show i - 1 + 1 = i by omega]
  · rw [upd_ne _ _ e]
    by_cases g : p ≤ j ∧ j + 1 < i
    · rw [if_pos g, if_pos (by omega)]
    · rw [if_neg g, if_neg (by omega)]
theorem rm_lp (d : ExV) (dr dy y : Int32) {n p : Nat} (hn : n ≤ 12) (hp : p < n) (h1 : d.1 = nI n) : ∀ (k i : Nat), i + k = n + 1 → p + 1 ≤ i → 1 ≤ k →
    lp_X1_remove_35 d dr dy y k (nI i) (nI n, rmF d.2.1 p i, rmF d.2.2.1 p i, rmF d.2.2.2 p i) = (0, (nI (n - 1), rmF d.2.1 p n, rmF d.2.2.1 p n, rmF d.2.2.2 p n)) ∧ lp_X1_remove_35' d dr dy y k (nI i) (nI n, rmF d.2.1 p i, rmF d.2.2.1 p i, rmF d.2.2.2 p i) = (1, (nI (n - 1), rmF d.2.1 p n, rmF d.2.2.1 p n, rmF d.2.2.2 p n)) := by
  intro k
  induction k with
  | zero => intro i _ _ h; omega
  | succ k ih =>
    intro i hi hp1 _
    have en : nI n - 1 = nI (n - 1) := by rw [q_1, pk_sub (by omega)]
    show (if nI n ≤ nI i then ((0 : Int32), (nI n - 1, rmF d.2.1 p i, rmF d.2.2.1 p i, rmF d.2.2.2 p i)) else lp_X1_remove_35 d dr dy y k (nI i + 1) (f_X1_move (nI n, rmF d.2.1 p i, rmF d.2.2.1 p i, rmF d.2.2.2 p i) (nI i) (nI i - 1))) = _ ∧
      (if nI n ≤ nI i then ((1 : Int32), (nI n - 1, rmF d.2.1 p i, rmF d.2.2.1 p i, rmF d.2.2.2 p i)) else lp_X1_remove_35' d dr dy y k (nI i + 1) (f_X1_move (nI n, rmF d.2.1 p i, rmF d.2.2.1 p i, rmF d.2.2.2 p i) (nI i) (nI i - 1))) = _
    by_cases h : n ≤ i
    · have : i = n := by omega
      subst this
      rw [if_pos (nI_le h (by omega)), if_pos (nI_le h (by omega)), en]
      exact ⟨rfl, rfl⟩
    · have ei : nI i - 1 = nI (i - 1) := by rw [q_1, pk_sub (by omega)]
      rw [if_neg (nI_ge (by omega) (by omega)), if_neg (nI_ge (by omega) (by omega)), ei, c_move _ (show i < 12 by omega) (show i - 1 < 12 by omega), nI_1]
      show lp_X1_remove_35 d dr dy y k (nI (i + 1)) (nI n, upd (rmF d.2.1 p i) (i - 1) (rmF d.2.1 p i i), upd (rmF d.2.2.1 p i) (i - 1) (rmF d.2.2.1 p i i), upd (rmF d.2.2.2 p i) (i - 1) (rmF d.2.2.2 p i i)) = _ ∧ lp_X1_remove_35' d dr dy y k (nI (i + 1)) (nI n, upd (rmF d.2.1 p i) (i - 1) (rmF d.2.1 p i i), upd (rmF d.2.2.1 p i) (i - 1) (rmF d.2.2.1 p i i), upd (rmF d.2.2.2 p i) (i - 1) (rmF d.2.2.2 p i i)) = _
      rw [rmF_s _ hp1, rmF_s _ hp1, rmF_s _ hp1]
      exact ih (i + 1) (by omega) (by omega) (by omega)
theorem rmF_0 (f : Nat → Int32) (p : Nat) : rmF f p (p + 1) = f := by
  funext j
  unfold rmF
  rw [if_neg (by omega)]
/-- the reference's row while exceptions move down -/
def lfF (s : Nat → Int32) (a x : Nat) : Nat → Int32 := fun q => if a ≤ q ∧ q < x then s (q + 3) else s q
theorem lf_lp (d0 : MoV) (dr dy : Int32) (u4 u10 u : MoV) (y14 y15 : Int32) (s : Nat → Int32) {n p : Nat} (hn : n ≤ 12) (hp : p < n) (h4 : s 4 = nI n) : ∀ (k x : Nat), 55 + 3 * p ≤ x → x ≤ 55 + 3 * (n - 1) → 56 + 3 * (n - 1) ≤ x + k →
    ∃ g', lp_X10_lifts_65 d0 dr dy u4 u10 y14 y15 k (nI x) (mo0 u (lfF s (55 + 3 * p) x)) = (y14, mo0 u g') ∧ okl_lp_X10_lifts_65 d0 dr dy u4 u10 y14 y15 k (nI x) (mo0 u (lfF s (55 + 3 * p) x)) ∧ g' 4 = nI (n - 1) ∧ (∀ q, 55 + 3 * p ≤ q → q < 55 + 3 * (n - 1) → g' q = s (q + 3)) ∧ ∀ q, q ≠ 4 → q < 55 + 3 * p ∨ 91 ≤ q → g' q = s q := by
  intro k
  induction k with
  | zero => intro x h1 h2 h3; omega
  | succ k ih =>
    intro x h1 h2 h3
    have f4 : lfF s (55 + 3 * p) x 4 = nI n := by
      unfold lfF
      rw [if_neg (by omega)]; exact h4
    have en : nI n - 1 = nI (n - 1) := by rw [q_1, pk_sub (by omega)]
    have eb : (55 : Int32) + (3 : Int32) * nI (n - 1) = nI (55 + 3 * (n - 1)) := by rw [q_55, q_3, pk_mul, nI_add]
    unfold lp_X10_lifts_65 okl_lp_X10_lifts_65
    simp only [show ((4 : Int32).toNatClampNeg) = 4 from rfl, f4, en, eb]
    by_cases hx : 55 + 3 * (n - 1) ≤ x
    · have hxx : x = 55 + 3 * (n - 1) := by omega
      subst hxx
      rw [if_pos (nI_le (Nat.le_refl _) (by omega)), if_pos (nI_le (Nat.le_refl _) (by omega))]
      have n3 : ∀ w, w < 3 → ((3 : Int32) ≤ nI w) = False := fun w hw => eq_false (nI_ge (b := 3) hw (by decide))
      have y3 : ((3 : Int32) ≤ nI 3) = True := eq_true (nI_le (a := 3) (by decide) (by decide))
      have iE : ∀ w : Nat, ((55 : Int32) + ((3 : Int32) * nI (n - 1))) + nI w = nI (55 + 3 * (n - 1) + w) := fun w => by rw [eb, nI_add]
      have cl : ∀ w, w < 3 → (nI (55 + 3 * (n - 1) + w)).toNatClampNeg = 55 + 3 * (n - 1) + w := fun w hw => nI_clamp (by omega)
      have iw : ∀ w, w < 3 → vp_in (nI (55 + 3 * (n - 1) + w)) 249 := fun w hw => in_lit _ (by omega)
      have a4 : ∀ (f : Nat → Int32) (w z : Nat) (c : Int32), upd f (55 + 3 * (n - 1) + w) c 4 = f 4 := fun f w z c => upd_ne _ _ (by omega)
      refine ⟨upd (upd (upd (upd (lfF s (55 + 3 * p) (55 + 3 * (n - 1))) 4 (nI (n - 1))) (55 + 3 * (n - 1) + 0) 0) (55 + 3 * (n - 1) + 1) 0) (55 + 3 * (n - 1) + 2) 0, ?_, ?_, ?_, fun q hq1 hq2 => ?_, fun q hq1 hq2 => ?_⟩
      · show (y14, (lp_X10_lifts_118 d0 dr dy u4 u10 y14 y15 (nI (55 + 3 * (n - 1))) (mo0 u (lfF s (55 + 3 * p) (55 + 3 * (n - 1)))) 4 (nI 0) (mo0 u (upd (lfF s (55 + 3 * p) (55 + 3 * (n - 1))) 4 (nI (n - 1))))).2) = _
        simp only [lp_X10_lifts_118, show ((4 : Int32).toNatClampNeg) = 4 from rfl, n3 0 (by decide), n3 1 (by decide), n3 2 (by decide), nI_1, y3, ite_true, ite_false, upd_eq, a4 _ 0 0, a4 _ 1 0, a4 _ 2 0, iE, cl 0 (by decide), cl 1 (by decide), cl 2 (by decide)]
      · refine ⟨?_, trivial⟩
        show okl_lp_X10_lifts_118 d0 dr dy u4 u10 y14 y15 (nI (55 + 3 * (n - 1))) (mo0 u (lfF s (55 + 3 * p) (55 + 3 * (n - 1)))) 4 (nI 0) (mo0 u (upd (lfF s (55 + 3 * p) (55 + 3 * (n - 1))) 4 (nI (n - 1))))
        simp only [okl_lp_X10_lifts_118, show ((4 : Int32).toNatClampNeg) = 4 from rfl, n3 0 (by decide), n3 1 (by decide), n3 2 (by decide), nI_1, y3, ite_true, ite_false, upd_eq, a4 _ 0 0, a4 _ 1 0, a4 _ 2 0, iE, cl 0 (by decide), cl 1 (by decide), cl 2 (by decide), iw 0 (by decide), iw 1 (by decide), iw 2 (by decide), and_self]
      · rw [upd_ne _ _ (by omega), upd_ne _ _ (by omega), upd_ne _ _ (by omega), upd_eq]
      · rw [upd_ne _ _ (by omega), upd_ne _ _ (by omega), upd_ne _ _ (by omega), upd_ne _ _ (by omega)]
        exact if_pos ⟨hq1, hq2⟩
      · rw [upd_ne _ _ (by omega), upd_ne _ _ (by omega), upd_ne _ _ (by omega), upd_ne _ _ hq1]
        exact if_neg (by omega)
    · rw [if_neg (nI_ge (by omega) (by omega)), if_neg (nI_ge (by omega) (by omega)), q_3, nI_add, nI_1, nI_clamp (by omega), nI_clamp (by omega)]
      have ef : upd (lfF s (55 + 3 * p) x) x (lfF s (55 + 3 * p) x (x + 3)) = lfF s (55 + 3 * p) (x + 1) := by
        funext q
        unfold lfF
        by_cases e : q = x
        · subst e
          rw [upd_eq, if_neg (by omega), if_pos (by omega)]
        · rw [upd_ne _ _ e]
          by_cases g : 55 + 3 * p ≤ q ∧ q < x
          · rw [if_pos g, if_pos (by omega)]
          · rw [if_neg g, if_neg (by omega)]
      obtain ⟨g', k1, k2, k3⟩ := ih (x + 1) (by omega) (by omega) (by omega)
      rw [← ef] at k1 k2
      exact ⟨g', k1, ⟨in_lit _ (by omega), in_lit _ (by omega), k2⟩, k3⟩
theorem lifts_door {d : MoV} {dr dy : Int32} (h : f_X10_isDoor d dr = 0) : f_X10_lifts d dr dy = (0, mo5 d 1) ∧ ok_X10_lifts d dr dy := by
  unfold f_X10_lifts ok_X10_lifts
  rw [if_pos h, if_pos h]
  exact ⟨rfl, trivial⟩
theorem lifts_none {d : MoV} {dr dy : Int32} (h : f_X10_isDoor d dr = 1) (ho : ok_X10_place (mo5 d 0) dr dy) (h2 : f_X10_place (mo5 d 0) dr dy = -1) : f_X10_lifts d dr dy = (0, mo5 (mo5 d 0) 2) ∧ ok_X10_lifts d dr dy := by
  have n1 : ¬ f_X10_isDoor d dr = 0 := by rw [h]; decide
  have n2 : ¬ (0 : Int32) ≤ f_X10_place (f_X10_isThrown d 0 1) dr dy := by rw [m_thr0, h2]; decide
  unfold f_X10_lifts ok_X10_lifts
  rw [if_neg n1, if_neg n1]
  refine ⟨if_neg n2, ho, ?_⟩
  exact cast (if_neg n2).symm trivial
theorem lifts_some {d : MoV} {dr dy : Int32} {P Y : Int32} (h : f_X10_isDoor d dr = 1) (ho : ok_X10_place (mo5 d 0) dr dy) (h2 : f_X10_place (mo5 d 0) dr dy = P) (h3 : (0 : Int32) ≤ P) (h4 : f_X10_ofException (mo5 (mo5 d 0) 0) P 2 = Y) (h5 : ok_X10_ofException (mo5 (mo5 d 0) 0) P 2) (F : Nat) (hF : F = 60) : f_X10_lifts d dr dy = lp_X10_lifts_65 d dr dy (mo5 d 0) (mo5 (mo5 d 0) 0) Y ((55 : Int32) + (3 : Int32) * P) F ((55 : Int32) + (3 : Int32) * P) (mo5 (mo5 d 0) 0) ∧ (okl_lp_X10_lifts_65 d dr dy (mo5 d 0) (mo5 (mo5 d 0) 0) Y ((55 : Int32) + (3 : Int32) * P) F ((55 : Int32) + (3 : Int32) * P) (mo5 (mo5 d 0) 0) → ok_X10_lifts d dr dy) := by
  have n1 : ¬ f_X10_isDoor d dr = 0 := by rw [h]; decide
  subst h2 h4
  unfold f_X10_lifts ok_X10_lifts
  rw [if_neg n1, if_neg n1, ← hF]
  exact ⟨if_pos h3, fun o => ⟨ho, cast (if_pos h3).symm ⟨h5, o⟩⟩⟩
theorem C_lifts {B : Nat} {v : StV} {d : MoV} (h : RS B v d.1) (dr dy : Int32) : CORE B (f_X8_faultOfLifting v dr dy) ((f_X1_remove v.2.2.2.1 dr dy).1, (v.1, v.2.1, v.2.2.1, (f_X1_remove v.2.2.2.1 dr dy).2, v.2.2.2.2.1, v.2.2.2.2.2)) ["java/lang/IndexOutOfBoundsException", "java/util/NoSuchElementException"] (ok_X10_lifts d dr dy) (f_X10_lifts d dr dy) d ∧ ((f_X10_lifts d dr dy).1 = 0 ∨ (f_X10_lifts d dr dy).1 = 1) := by
  obtain ⟨t, c, ht, hc, hc2, e1, e2, e3, e4, hD, hE, hP, hA⟩ := id h
  obtain ⟨nd, d1, d2, d3, d4⟩ := id hD
  obtain ⟨n, n1, n2, n3, n4⟩ := id hE
  have md := m_door hD dr
  unfold CORE f_X8_faultOfLifting
  rcases h_do v.2.2.1 d1 d2 dr with e | ⟨e, j, hj, rfl⟩
  · obtain ⟨E1, E2⟩ := lifts_door (dy := dy) (md.trans e)
    rw [E1, e, if_pos rfl]
    exact ⟨⟨E2, Or.inl ⟨0, by decide, by decide, rfl, by decide, rfl⟩⟩, Or.inl rfl⟩
  · obtain ⟨o1, K⟩ := c_place (d := mo5 d 0) hE (nI j) dy
    rcases K with ⟨a1, a2⟩ | ⟨n', p, hn', a0, hp, a1, a2⟩
    · obtain ⟨E1, E2⟩ := lifts_none (md.trans e) o1 a2
      rw [E1, e, if_neg (show ¬ (1 : Int32) = 0 by decide), a1, if_pos rfl]
      exact ⟨⟨E2, Or.inl ⟨1, by decide, by decide, rfl, by decide, rfl⟩⟩, Or.inl rfl⟩
    · have en : n' = n := (nI_eq (by omega) (by omega)).mp (a0.symm.trans n2)
      subst en
      have z2 : (nI p = -1) = False := eq_false (fun g => (q_neM (by omega)).mp g)
      obtain ⟨m0, m1⟩ := m_ofE (mo5 (mo5 d 0) 0) (j := p) (w := 2) (by omega) (by decide)
      have m0 : f_X10_ofException (mo5 (mo5 d 0) 0) (nI p) 2 = d.1 (55 + 3 * p + 2) := m0
      have m1 : ok_X10_ofException (mo5 (mo5 d 0) 0) (nI p) 2 := m1
      have ei : (55 : Int32) + (3 : Int32) * nI p = nI (55 + 3 * p) := by rw [q_55, q_3, pk_mul, nI_add]
      obtain ⟨E1, E2⟩ := lifts_some (md.trans e) o1 a2 (nI_pos' (by omega)) m0 m1 60 rfl
      rw [ei] at E1 E2
      obtain ⟨g', k1, k2, k3, k4, k5⟩ := lf_lp d (nI j) dy (mo5 d 0) (mo5 (mo5 d 0) 0) (mo5 d 0) (d.1 (55 + 3 * p + 2)) (nI (55 + 3 * p)) d.1 n1 hp n3 60 (55 + 3 * p) (by omega) (by omega) (by omega)
      have e0 : mo0 (mo5 d 0) (lfF d.1 (55 + 3 * p) (55 + 3 * p)) = mo5 (mo5 d 0) 0 := by
        have e9 : lfF d.1 (55 + 3 * p) (55 + 3 * p) = d.1 := by
          funext q
          unfold lfF
          rw [if_neg (by omega)]
        rw [e9]
      rw [e0] at k1 k2
      obtain ⟨x0, x1, x2⟩ := n4 p hp
      obtain ⟨r1, r2⟩ := rm_lp v.2.2.2.1 (nI j) dy (nI p) n1 hp n2 (n' - p) (p + 1) (by omega) (by omega) (by omega)
      rw [rmF_0, rmF_0, rmF_0] at r1 r2
      have eE : ((nI n', v.2.2.2.1.2.1, v.2.2.2.1.2.2.1, v.2.2.2.1.2.2.2) : ExV) = v.2.2.2.1 := by rw [← n2]
      rw [eE] at r1 r2
      have ev : f_X1_effectAt v.2.2.2.1 (nI p) = v.2.2.2.1.2.2.2 p := by
        unfold f_X1_effectAt f_X1_holds
        rw [n2, if_neg (nI_pos (by omega)), if_neg (nI_ge hp (by omega)), if_neg (by decide), n_at _ (by omega) (by decide)]
      have hRE : RE (nI (n' - 1), rmF v.2.2.2.1.2.1 p n', rmF v.2.2.2.1.2.2.1 p n', rmF v.2.2.2.1.2.2.2 p n') g' := by
        refine ⟨n' - 1, by omega, rfl, k3, fun i hi => ?_⟩
        show g' (55 + 3 * i) = rmF v.2.2.2.1.2.2.1 p n' i ∧ g' (55 + 3 * i + 1) = rmF v.2.2.2.1.2.1 p n' i ∧ (rmF v.2.2.2.1.2.2.2 p n' i = 1 ∧ g' (55 + 3 * i + 2) = 1 ∨ rmF v.2.2.2.1.2.2.2 p n' i = 2 ∧ g' (55 + 3 * i + 2) = 0)
        unfold rmF
        by_cases hip : p ≤ i
        · rw [if_pos ⟨hip, by omega⟩, if_pos ⟨hip, by omega⟩, if_pos ⟨hip, by omega⟩, k4 _ (by omega) (by omega), k4 _ (by omega) (by omega), k4 _ (by omega) (by omega)]
          exact n4 (i + 1) (by omega)
        · rw [if_neg (fun g => hip g.1), if_neg (fun g => hip g.1), if_neg (fun g => hip g.1), k5 _ (by omega) (by omega), k5 _ (by omega) (by omega), k5 _ (by omega) (by omega)]
          exact n4 i (by omega)
      have hRS := h.exc hRE (fun q h4 hq => k5 q h4 (by omega))
      have ef : ((n' : Int) - ((p + 1 : Nat) : Int)).toNat + 1 = n' - p := by omega
      have er : f_X1_remove v.2.2.2.1 (nI j) dy = (d.1 (55 + 3 * p + 2), (nI (n' - 1), rmF v.2.2.2.1.2.1 p n', rmF v.2.2.2.1.2.2.1 p n', rmF v.2.2.2.1.2.2.2 p n')) := by
        unfold f_X1_remove
        simp only [a1, z2, ite_false, ev, nI_1, n2, nI_toInt (show n' < 2 ^ 31 by omega), nI_toInt (show p + 1 < 2 ^ 31 by omega), ef]
        rcases x2 with ⟨w1, w2⟩ | ⟨w1, w2⟩
        · rw [w1, if_pos rfl, w2]; exact r2
        · rw [w1, if_neg (by decide), w2]; exact r1
      rw [E1, k1, er, e, if_neg (show ¬ (1 : Int32) = 0 by decide), a1, if_neg (fun g => (q_neM (by omega)).mp g)]
      refine ⟨⟨E2 k2, Or.inr ⟨rfl, g', rfl, hRS⟩⟩, ?_⟩
      show d.1 (55 + 3 * p + 2) = 0 ∨ d.1 (55 + 3 * p + 2) = 1
      rcases x2 with ⟨-, w2⟩ | ⟨-, w2⟩
      · exact Or.inr w2
      · exact Or.inl w2
