/-! ===== attempts ===== -/
def trT1 (f : Nat → Int32) (ps dr R : Int32) : Nat → Int32 := upd (upd (upd f (91 : Int32).toNatClampNeg ps) (92 : Int32).toNatClampNeg dr) (93 : Int32).toNatClampNeg R
def trT2 (f : Nat → Int32) (ps dr R w : Int32) : Nat → Int32 := upd (trT1 f ps dr R) (5 : Int32).toNatClampNeg ((trT1 f ps dr R (5 : Int32).toNatClampNeg) + w)
def trT3 (f : Nat → Int32) (ps dr R w : Int32) : Nat → Int32 := upd (trT2 f ps dr R w) ((6 : Int32) + R).toNatClampNeg ((trT2 f ps dr R w ((6 : Int32) + R).toNatClampNeg) + 1)
def trT4 (dL : MoV) (ps dr R w z : Int32) : Nat → Int32 := upd (trT3 dL.1 ps dr R w) (f_X10_audit (mo0 dL (trT3 dL.1 ps dr R w)) dr 0 + z).toNatClampNeg ((trT3 dL.1 ps dr R w (f_X10_audit (mo0 dL (trT3 dL.1 ps dr R w)) dr 0 + z).toNatClampNeg) + 1)
def trT5 (dL : MoV) (ps dr R w z y : Int32) : Nat → Int32 := upd (trT4 dL ps dr R w z) (((43 : Int32) + ((2 : Int32) * ps)) + 1).toNatClampNeg ((trT4 dL ps dr R w z (((43 : Int32) + ((2 : Int32) * ps)) + 1).toNatClampNeg) + y)
def trK (dL : MoV) (ps dr R w : Int32) : Int32 × MoV := if R = 0 then (R, mo0 dL (trT5 dL ps dr R w 0 1)) else (R, mo0 dL (trT5 dL ps dr R w 1 0))
def trE (dL : MoV) (ps dr R : Int32) : Int32 × MoV := if (10 : Int32) ≤ trT1 dL.1 ps dr R (5 : Int32).toNatClampNeg then trK dL ps dr R 0 else trK dL ps dr R 1
def trO (dL : MoV) (ps dr R w : Int32) : Prop := vp_in ((6 : Int32) + R) 249 ∧ (vp_in ((6 : Int32) + R) 249 ∧ (if R = 0 then (vp_in (f_X10_audit (mo0 dL (trT3 dL.1 ps dr R w)) dr 0 + 0) 249 ∧ (vp_in (f_X10_audit (mo0 dL (trT3 dL.1 ps dr R w)) dr 0 + 0) 249 ∧ (vp_in (((43 : Int32) + ((2 : Int32) * ps)) + 1) 249 ∧ (vp_in (((43 : Int32) + ((2 : Int32) * ps)) + 1) 249 ∧ True)))) else (vp_in (f_X10_audit (mo0 dL (trT3 dL.1 ps dr R w)) dr 0 + 1) 249 ∧ (vp_in (f_X10_audit (mo0 dL (trT3 dL.1 ps dr R w)) dr 0 + 1) 249 ∧ (vp_in (((43 : Int32) + ((2 : Int32) * ps)) + 1) 249 ∧ (vp_in (((43 : Int32) + ((2 : Int32) * ps)) + 1) 249 ∧ True))))))
def trOE (dL : MoV) (ps dr R : Int32) : Prop := if (10 : Int32) ≤ trT1 dL.1 ps dr R (5 : Int32).toNatClampNeg then trO dL ps dr R 0 else trO dL ps dr R 1
set_option maxRecDepth 100000 in
theorem tries_step (d : MoV) (ps dr : Int32) (u : MoV) (n : Nat) (x : Int32) (dL : MoV) : lp_X10_tries_42 d ps dr u (n + 1) x dL = if x < 94 then trE dL ps dr (f_X10_result u ps dr) else lp_X10_tries_42 d ps dr u n (x + (-1)) (mo0 dL (upd dL.1 x.toNatClampNeg (dL.1 (x - 3).toNatClampNeg))) := rfl
set_option maxRecDepth 100000 in
theorem triesO_step (d : MoV) (ps dr : Int32) (u : MoV) (n : Nat) (x : Int32) (dL : MoV) : okl_lp_X10_tries_42 d ps dr u (n + 1) x dL = if x < 94 then trOE dL ps dr (f_X10_result u ps dr) else (vp_in (x - 3) 249 ∧ (vp_in x 249 ∧ okl_lp_X10_tries_42 d ps dr u n (x + (-1)) (mo0 dL (upd dL.1 x.toNatClampNeg (dL.1 (x - 3).toNatClampNeg))))) := rfl
def shiftL (s : Nat → Int32) : Nat → Int32 := fun q => if 94 ≤ q ∧ q < 121 then s (q - 3) else s q
theorem tries_lp (d u : MoV) (s : Nat → Int32) (ps dr : Int32) : ∀ (n x : Nat) (g : Nat → Int32), x = 92 + n → 1 ≤ n → n ≤ 28 → (∀ q, g q = if x < q ∧ 94 ≤ q ∧ q < 121 then s (q - 3) else s q) →
    lp_X10_tries_42 d ps dr u n (nI x) (mo0 u g) = trE (mo0 u (shiftL s)) ps dr (f_X10_result u ps dr) ∧ (trOE (mo0 u (shiftL s)) ps dr (f_X10_result u ps dr) → okl_lp_X10_tries_42 d ps dr u n (nI x) (mo0 u g)) := by
  intro n
  induction n with
  | zero => intro x g _ h; exact absurd h (by decide)
  | succ n ih =>
    intro x g hx _ h28 hg
    rw [tries_step, triesO_step, show (94 : Int32) = nI 94 from rfl]
    by_cases h : x < 94
    · have hgs : g = shiftL s := by
        funext q
        rw [hg q]
        unfold shiftL
        by_cases hq : 94 ≤ q ∧ q < 121
        · rw [if_pos (by omega), if_pos hq]
        · rw [if_neg (by omega), if_neg hq]
      rw [if_pos (nI_lt h (by decide)), if_pos (nI_lt h (by decide)), hgs]
      exact ⟨rfl, id⟩
    · have ex : nI x + (-1) = nI (x - 1) := sb_m1 (by omega)
      rw [if_neg (nI_nlt (by omega) (by omega)), if_neg (nI_nlt (by omega) (by omega)), ex, q_3, pk_sub (by omega), nI_clamp (by omega), nI_clamp (by omega)]
      have := ih (x - 1) (upd g x (g (x - 3))) (by omega) (by omega) (by omega) (fun q => by
        by_cases hq : q = x
        · subst hq
          rw [upd_eq, hg, if_neg (by omega), if_pos (by omega)]
        · rw [upd_ne _ _ hq, hg]
          by_cases hq2 : x < q ∧ 94 ≤ q ∧ q < 121
          · rw [if_pos hq2, if_pos (by omega)]
          · rw [if_neg hq2, if_neg (by omega)])
      exact ⟨this.1, fun o => ⟨vp_in_nI (by omega) (by decide), vp_in_nI (by omega) (by decide), this.2 o⟩⟩
/-- the row behind an attempt -/
def sTry (s : Nat → Int32) (i j r m : Nat) : Nat → Int32 := upd (upd (upd (upd (upd (upd (upd (shiftL s) 91 (nI i)) 92 (nI j)) 93 (nI r)) 5 (nI m)) (6 + r) (s (6 + r) + 1)) (121 + 2 * j + (if r = 0 then 0 else 1)) (s (121 + 2 * j + (if r = 0 then 0 else 1)) + 1)) (43 + 2 * i + 1) (s (43 + 2 * i + 1) + (if r = 0 then 1 else 0))
theorem tries_end (u : MoV) (s : Nat → Int32) {i j r n : Nat} (hi : i < 6) (hj : j < 8) (hr : r < 5) (h5 : s 5 = nI (min n 10)) : trE (mo0 u (shiftL s)) (nI i) (nI j) (nI r) = (nI r, mo0 u (sTry s i j r (min (n + 1) 10))) ∧ trOE (mo0 u (shiftL s)) (nI i) (nI j) (nI r) := by
  have a5 : trT1 (shiftL s) (nI i) (nI j) (nI r) 5 = nI (min n 10) := by
    show upd (upd (upd (shiftL s) 91 _) 92 _) 93 _ 5 = _
    rw [upd_ne _ _ (by decide), upd_ne _ _ (by decide), upd_ne _ _ (by decide), ← h5]
    exact if_neg (by decide)
  have i6 : (6 : Int32) + nI r = nI (6 + r) := by rw [q_6, nI_add]
  have iA : ∀ dd : MoV, f_X10_audit dd (nI j) 0 = nI (121 + 2 * j) := fun dd => by
    unfold f_X10_audit
    rw [q_121, q_2, q_8, show (0 : Int32) = nI 0 from rfl, pk_mul, nI_add, pk_mul, nI_add, show 8 * 0 + j = j by omega]
  have iP : ((43 : Int32) + ((2 : Int32) * nI i)) + 1 = nI (43 + 2 * i + 1) := by rw [q_43, q_2, pk_mul, nI_add, nI_1]
  have z0 : nI (121 + 2 * j) + 0 = nI (121 + 2 * j) := Int32.add_zero _
  have z1 : nI (121 + 2 * j) + 1 = nI (121 + 2 * j + 1) := nI_1 _
  have K : ∀ w : Int32, nI (min n 10) + w = nI (min (n + 1) 10) → trK (mo0 u (shiftL s)) (nI i) (nI j) (nI r) w = (nI r, mo0 u (sTry s i j r (min (n + 1) 10))) ∧ trO (mo0 u (shiftL s)) (nI i) (nI j) (nI r) w := by
    intro w hw
    have t2 : trT2 (shiftL s) (nI i) (nI j) (nI r) w = upd (upd (upd (upd (shiftL s) 91 (nI i)) 92 (nI j)) 93 (nI r)) 5 (nI (min (n + 1) 10)) := by
      show upd (trT1 (shiftL s) (nI i) (nI j) (nI r)) 5 (trT1 (shiftL s) (nI i) (nI j) (nI r) 5 + w) = _
      rw [a5, hw]
      rfl
    have t3 : trT3 (shiftL s) (nI i) (nI j) (nI r) w = upd (upd (upd (upd (upd (shiftL s) 91 (nI i)) 92 (nI j)) 93 (nI r)) 5 (nI (min (n + 1) 10))) (6 + r) (s (6 + r) + 1) := by
      unfold trT3
      rw [t2, i6, nI_clamp (by omega), upd_ne _ _ (by omega), upd_ne _ _ (by omega), upd_ne _ _ (by omega), upd_ne _ _ (by omega)]
      congr 2
      exact if_neg (by omega)
    have t4 : ∀ (z : Nat), z < 2 → trT4 (mo0 u (shiftL s)) (nI i) (nI j) (nI r) w (nI z) = upd (upd (upd (upd (upd (upd (shiftL s) 91 (nI i)) 92 (nI j)) 93 (nI r)) 5 (nI (min (n + 1) 10))) (6 + r) (s (6 + r) + 1)) (121 + 2 * j + z) (s (121 + 2 * j + z) + 1) := fun z hz => by
      unfold trT4
      rw [iA, nI_add, nI_clamp (by omega)]
      show upd (trT3 (shiftL s) (nI i) (nI j) (nI r) w) _ (trT3 (shiftL s) (nI i) (nI j) (nI r) w _ + 1) = _
      rw [t3, upd_ne _ _ (by omega), upd_ne _ _ (by omega), upd_ne _ _ (by omega), upd_ne _ _ (by omega), upd_ne _ _ (by omega)]
      congr 2
      exact if_neg (by omega)
    have t5 : ∀ (z y : Nat), z < 2 → trT5 (mo0 u (shiftL s)) (nI i) (nI j) (nI r) w (nI z) (nI y) = upd (upd (upd (upd (upd (upd (upd (shiftL s) 91 (nI i)) 92 (nI j)) 93 (nI r)) 5 (nI (min (n + 1) 10))) (6 + r) (s (6 + r) + 1)) (121 + 2 * j + z) (s (121 + 2 * j + z) + 1)) (43 + 2 * i + 1) (s (43 + 2 * i + 1) + nI y) := fun z y hz => by
      unfold trT5
      rw [iP, nI_clamp (by omega), t4 z hz, upd_ne _ _ (by omega), upd_ne _ _ (by omega), upd_ne _ _ (by omega), upd_ne _ _ (by omega), upd_ne _ _ (by omega), upd_ne _ _ (by omega)]
      congr 2
      exact if_neg (by omega)
    unfold trK trO sTry
    rw [i6, iP, iA]
    by_cases h0 : r = 0
    · subst h0
      rw [if_pos (show nI 0 = 0 from rfl), if_pos (show nI 0 = 0 from rfl), if_pos rfl, if_pos rfl, z0]
      refine ⟨?_, in_lit _ (by omega), in_lit _ (by omega), in_lit _ (by omega), in_lit _ (by omega), in_lit _ (by omega), in_lit _ (by omega), trivial⟩
      have := t5 0 1 (by decide)
      rw [show trT5 (mo0 u (shiftL s)) (nI i) (nI j) (nI 0) w 0 1 = _ from this]
      rfl
    · have n0 : ¬ nI r = 0 := nI_ne0 (by omega) (by omega)
      rw [if_neg n0, if_neg n0, if_neg h0, if_neg h0, z1]
      refine ⟨?_, in_lit _ (by omega), in_lit _ (by omega), in_lit _ (by omega), in_lit _ (by omega), in_lit _ (by omega), in_lit _ (by omega), trivial⟩
      have := t5 1 0 (by decide)
      rw [show trT5 (mo0 u (shiftL s)) (nI i) (nI j) (nI r) w 1 0 = _ from this]
      rfl
  unfold trE trOE
  have a5 : trT1 (mo0 u (shiftL s)).1 (nI i) (nI j) (nI r) (5 : Int32).toNatClampNeg = nI (min n 10) := a5
  rw [a5, q_10]
  by_cases h10 : 10 ≤ min n 10
  · rw [if_pos (nI_le h10 (by omega)), if_pos (nI_le h10 (by omega))]
    exact K 0 (by rw [Int32.add_zero]; congr 1; omega)
  · rw [if_neg (nI_ge (by omega) (by decide)), if_neg (nI_ge (by omega) (by decide))]
    exact K 1 (by rw [nI_1]; congr 1; omega)
