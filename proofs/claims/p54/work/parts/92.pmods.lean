/-! ===== what a modification does: nothing and an exception, or the note of the state before, and a state as it should be ===== -/
variable {dn : Nat}
theorem thr0 {k : Nat} (h : f_X9_throwFor k = "") (hk : k < 6) : k = 0 := by
  rcases (show k = 0 ∨ k = 1 ∨ k = 2 ∨ k = 3 ∨ k = 4 ∨ k = 5 by omega) with e | e | e | e | e | e <;> subst e
  · rfl
  all_goals exact absurd h (by decide)
theorem f6_rule (a b c d : Int32) : f_X2_faultOfRule a b c d < 6 := by
  unfold f_X2_faultOfRule
  repeat' split
  all_goals decide
theorem f6_newDoor (v : StV) (a b c d : Int32) : f_X8_faultOfNewDoor v a b c d < 6 := by
  have := f6_rule a b c d
  unfold f_X8_faultOfNewDoor
  repeat' split
  all_goals first | exact this | decide
theorem f6_newEx (v : StV) (a b : Int32) : f_X8_faultOfNewException v a b < 6 := by
  unfold f_X8_faultOfNewException
  repeat' split
  all_goals decide
theorem f6_lift (v : StV) (a b : Int32) : f_X8_faultOfLifting v a b < 6 := by
  unfold f_X8_faultOfLifting
  repeat' split
  all_goals decide
theorem f6_att (v : StV) (a b : Int32) : f_X8_faultOfAttempt v a b < 6 := by
  unfold f_X8_faultOfAttempt
  repeat' split
  all_goals decide
theorem f6_cyc (a : Int32) : f_X8_faultOfCycle a < 6 := by
  unfold f_X8_faultOfCycle
  repeat' split
  all_goals decide
theorem f6_wait (a : Int32) : f_X8_faultOfWaiting a < 6 := by
  unfold f_X8_faultOfWaiting
  repeat' split
  all_goals decide
theorem f6_give (p : PeV) (a b : Int32) : f_X5_faultOfGiving p a b < 6 := by
  unfold f_X5_faultOfGiving
  repeat' split
  all_goals decide
theorem f6_take (p : PeV) (a b : Int32) : f_X5_faultOfTaking p a b < 6 := by
  unfold f_X5_faultOfTaking
  repeat' split
  all_goals decide
/-! the class's state behind each kind of change -/
theorem rs_5 (v : StV) (ps dr : Int32) : ∃ r : Nat, r < 5 ∧ f_X8_resultFor v ps dr = nI r := by
  unfold f_X8_resultFor
  dsimp only
  repeat' split
  · exact ⟨1, by decide, rfl⟩
  · exact ⟨2, by decide, rfl⟩
  · exact ⟨0, by decide, rfl⟩
  · exact ⟨3, by decide, rfl⟩
  · exact ⟨4, by decide, rfl⟩
  · exact ⟨0, by decide, rfl⟩
theorem sm_upd (f : Nat → Int32) {i : Nat} : ∀ n, sm (upd f i (f i + 1)) n = if i < n then sm f n + 1 else sm f n := by
  intro n
  induction n with
  | zero => rw [if_neg (Nat.not_lt_zero i)]; rfl
  | succ n ih =>
    show sm (upd f i (f i + 1)) n + upd f i (f i + 1) n = if i < n + 1 then sm f n + f n + 1 else sm f n + f n
    rw [ih]
    by_cases g : i < n
    · rw [if_pos g, if_pos (by omega), upd_ne _ _ (by omega), Int32.add_assoc, Int32.add_comm 1 (f n), ← Int32.add_assoc]
    · rw [if_neg g]
      by_cases e : i = n
      · subst e
        rw [upd_eq, if_pos (by omega), ← Int32.add_assoc]
      · rw [upd_ne _ _ (by omega), if_neg (by omega)]
theorem rec_res (a : AuV) (ps dr dy rs : Int32) : (f_X0_record a ps dr dy rs).2.2.2.1 = f_X7_increase 5 a.2.2.2.1 rs := by
  unfold f_X0_record
  dsimp only
  split <;> rfl
theorem JE_att {p : PeV} {a : AuV} (h : JE p a) {i np : Nat} (hn : np ≤ 6) (e : p.1 = nI np) (hi : i < np) (dr dy : Int32) : JE (f_X5_countEntry p (nI i)) (f_X0_record a (nI i) dr dy 0) := by
  obtain ⟨n, h1, h2, h3, h4⟩ := h
  have en : n = np := (nI_eq (by omega) (by omega)).mp (h2.symm.trans e)
  subst en
  have e1 : f_X5_countEntry p (nI i) = (p.1, p.2.1, upd p.2.2 i (p.2.2 i + 1)) := by
    unfold f_X5_countEntry
    rw [n_inc _ (by omega) (by decide)]
  refine ⟨n, h1, by rw [e1]; exact h2, fun j hj hj6 => ?_, ?_⟩
  · rw [e1]
    show upd p.2.2 i _ j = 0
    rw [upd_ne _ _ (by omega)]
    exact h3 j hj hj6
  · rw [e1, rec_res, show (0 : Int32) = nI 0 from rfl, n_inc _ (by decide) (by decide), upd_eq, ← h4]
    show sm (upd p.2.2 i (p.2.2 i + 1)) n = _
    rw [sm_upd, if_pos hi]
theorem JE_ref {p : PeV} {a : AuV} (h : JE p a) (ps dr dy : Int32) {r : Nat} (h0 : 0 < r) (hr : r < 5) : JE p (f_X0_record a ps dr dy (nI r)) := by
  obtain ⟨n, h1, h2, h3, h4⟩ := h
  refine ⟨n, h1, h2, h3, ?_⟩
  rw [rec_res, n_inc _ hr (by decide), upd_ne _ _ (by omega)]
  exact h4
theorem JS_att {v : StV} (h : JS dn v) {ps dr : Int32} (hf : f_X8_faultOfAttempt v ps dr = 0) : JS dn (f_X8_attempt v ps dr).2 := by
  obtain ⟨np, hn, e, h3, h4⟩ := id h.2
  have hp : ∃ i, i < np ∧ ps = nI i := by
    rcases h_pe v.2.2.2.2.1 hn e ps with g | ⟨-, g⟩
    · unfold f_X8_faultOfAttempt at hf
      rw [if_pos g] at hf
      exact absurd hf (by decide)
    · exact g
  obtain ⟨i, hi, rfl⟩ := hp
  obtain ⟨r, hr, er⟩ := rs_5 v (nI i) dr
  have ea : f_X8_attempt v (nI i) dr = if f_X8_resultFor v (nI i) dr = 0 then (f_X8_resultFor v (nI i) dr, (v.1, v.2.1, v.2.2.1, v.2.2.2.1, f_X5_countEntry v.2.2.2.2.1 (nI i), f_X0_record v.2.2.2.2.2 (nI i) dr (f_X8_today v) (f_X8_resultFor v (nI i) dr))) else (f_X8_resultFor v (nI i) dr, (v.1, v.2.1, v.2.2.1, v.2.2.2.1, v.2.2.2.2.1, f_X0_record v.2.2.2.2.2 (nI i) dr (f_X8_today v) (f_X8_resultFor v (nI i) dr))) := rfl
  rw [ea, er]
  by_cases g : r = 0
  · subst g
    rw [if_pos (show nI 0 = 0 from rfl)]
    exact ⟨h.1, JE_att h.2 hn e hi dr _⟩
  · rw [if_neg (nI_ne0 (by omega) (by omega))]
    exact ⟨h.1, JE_ref h.2 _ dr _ (by omega) hr⟩
theorem bd_18 (d : AuV) (d0 d1 x3 : Int32) (dL : AuV) : ∀ (n : Nat) (x : Int32) (a : AuV), (lp_X0_beginDays_18 d d0 d1 x3 dL n x a).2.2.2.2.1 = a.2.2.2.1 := by
  intro n
  induction n with
  | zero => intro x a; rfl
  | succ n ih =>
    intro x a
    have e : lp_X0_beginDays_18 d d0 d1 x3 dL (n + 1) x a = if (8 : Int32) ≤ x then (x, a) else lp_X0_beginDays_18 d d0 d1 x3 dL n (x + 1) (a.1, f_X7_put 64 a.2.1 (f_X0_slotOf x (d0 + x3)) 0, f_X7_put 64 a.2.2.1 (f_X0_slotOf x (d0 + x3)) 0, a.2.2.2.1, a.2.2.2.2.1, a.2.2.2.2.2.1, a.2.2.2.2.2.2) := rfl
    rw [e]
    split
    · rfl
    · rw [ih]
theorem bd_2 (d : AuV) (d0 d1 : Int32) : ∀ (n : Nat) (x : Int32) (a : AuV), a.2.2.2.1 = d.2.2.2.1 → (lp_X0_beginDays_2 d d0 d1 n x a).2.2.2.1 = d.2.2.2.1 := by
  intro n
  induction n with
  | zero => intro x a _; rfl
  | succ n ih =>
    intro x a h
    have e : lp_X0_beginDays_2 d d0 d1 (n + 1) x a = if (8 : Int32) < x then a else if d1 - d0 < x then a else lp_X0_beginDays_2 d d0 d1 n (x + 1) (lp_X0_beginDays_18 d d0 d1 x a ((((8 : Int32)).toInt - ((0 : Int32)).toInt).toNat + 1) (0 : Int32) a).2 := rfl
    rw [e]
    split
    · exact h
    · split
      · exact h
      · exact ih _ _ ((bd_18 d d0 d1 x a _ _ a).trans h)
theorem bd_res (a : AuV) (d0 d1 : Int32) : (f_X0_beginDays a d0 d1).2.2.2.1 = a.2.2.2.1 := bd_2 a d0 d1 _ _ a rfl
theorem JS_pass {v : StV} (h : JS dn v) (x : Int32) : JS dn (f_X8_passHours v x).2 := by
  refine ⟨h.1, ?_⟩
  obtain ⟨n, h1, h2, h3, h4⟩ := h.2
  exact ⟨n, h1, h2, h3, h4.trans (congrFun (bd_res v.2.2.2.2.2 _ _).symm 0)⟩
theorem ex_args {v : StV} (h : JX dn v.2.2.1.1 v.2.2.2.1) {dr dy : Int32} (hf : f_X8_faultOfNewException v dr dy = 0) : (∃ b : Nat, dr = nI b ∧ (∀ d : Nat, d ≤ 8 → v.2.2.1.1 = nI d → b < d)) ∧ (∃ a : Nat, a ≤ 999 ∧ dy = nI a) ∧ f_X1_positionOf v.2.2.2.1 dr dy = -1 ∧ v.2.2.2.1.1 < 12 := by
  obtain ⟨n, d, K, hn, hd, hm, h0, h1, h2, h3⟩ := h
  unfold f_X8_faultOfNewException at hf
  rcases h_do v.2.2.1 hd h0 dr with g | ⟨g, j, hj, rfl⟩
  · rw [if_pos g] at hf; exact absurd hf (by decide)
  · rw [g, if_neg (by decide)] at hf
    by_cases c1 : dy < 0
    · rw [if_pos c1] at hf; exact absurd hf (by decide)
    · rw [if_neg c1] at hf
      by_cases c2 : dy ≤ 999
      · rw [if_pos c2] at hf
        by_cases c3 : f_X8_today v ≤ dy
        · rw [if_pos c3] at hf
          by_cases c4 : f_X1_positionOf v.2.2.2.1 (nI j) dy = -1
          · rw [if_pos c4] at hf
            by_cases c5 : v.2.2.2.1.1 < 12
            · obtain ⟨a, ha, rfl⟩ := nI_of2 (n := 999) (by decide) c1 c2
              refine ⟨⟨j, rfl, fun d' hd' e => ?_⟩, ⟨a, ha, rfl⟩, c4, c5⟩
              have : d = d' := (nI_eq (by omega) (by omega)).mp (h0.symm.trans e)
              omega
            · rw [if_neg c5] at hf; exact absurd hf (by decide)
          · rw [if_neg c4] at hf; exact absurd hf (by decide)
        · rw [if_neg c3] at hf; exact absurd hf (by decide)
      · rw [if_neg c2] at hf; exact absurd hf (by decide)
theorem JS_ins {v : StV} (h : JS dn v) {dr dy : Int32} (hf : f_X8_faultOfNewException v dr dy = 0) (op : Int32) : JS dn (v.1, v.2.1, v.2.2.1, (f_X1_insert v.2.2.2.1 dr dy op).2, v.2.2.2.2.1, v.2.2.2.2.2) := by
  obtain ⟨a1, a2, a3, a4⟩ := ex_args h.1 hf
  exact ⟨ij h.1 a1 a2 a3 a4 op, h.2⟩
theorem JS_cmd {q : McV} {v : StV} (h : JS dn v) {vb x y : Int32} (hf : f_X9_faultOfCommand q v vb x y = 0) : JS dn (f_X9_carryOut q v vb x y) := by
  unfold f_X9_faultOfCommand at hf
  unfold f_X9_carryOut
  by_cases c0 : vb = 0
  · rw [if_pos c0]; exact ⟨h.1, h.2⟩
  rw [if_neg c0] at hf ⊢
  by_cases c1 : vb = 1
  · rw [if_pos c1]; exact ⟨h.1, h.2⟩
  rw [if_neg c1] at hf ⊢
  by_cases c2 : vb = 2
  · rw [if_pos c2] at hf ⊢; exact JS_att h hf
  rw [if_neg c2] at hf ⊢
  by_cases c3 : vb = 3
  · rw [if_pos c3] at hf ⊢; exact JS_ins h hf 1
  rw [if_neg c3] at hf ⊢
  by_cases c4 : vb = 4
  · rw [if_pos c4] at hf ⊢; exact JS_ins h hf 0
  rw [if_neg c4] at hf ⊢
  by_cases c5 : vb = 5
  · rw [if_pos c5] at hf ⊢; exact ⟨rj h.1 x y, h.2⟩
  rw [if_neg c5] at hf ⊢
  by_cases c6 : vb = 6
  · rw [if_pos c6]; exact ⟨h.1, h.2⟩
  rw [if_neg c6]
  exact JS_pass (v := (v.1, v.2.1, v.2.2.1, v.2.2.2.1, v.2.2.2.2.1, v.2.2.2.2.2)) h x
theorem JS_run {q : McV} {v0 : StV} {pg0 : PrV} {tb : SbV} {x : Int32} {u : PrV} (h0 : JS dn v0) : ∀ (n : Nat) (y : Int32) (v : StV) (pg : PrV), JS dn v → JS dn (lp_X9_runCommands_9 q v0 pg0 tb x u n y v pg).2.1 := by
  intro n
  induction n with
  | zero => intro y v pg _; exact h0
  | succ n ih =>
    intro y v pg h
    have e : lp_X9_runCommands_9 q v0 pg0 tb x u (n + 1) y v pg = if x ≤ y then ((-1 : Int32), v, pg) else if f_X9_faultOfCommand q v (f_X6_readCommand pg tb).2.2.1 (f_X6_readCommand pg tb).2.2.2.1 (f_X6_readCommand pg tb).2.2.2.2 = 0 then lp_X9_runCommands_9 q v0 pg0 tb x u n (y + 1) (f_X9_carryOut q v (f_X6_readCommand pg tb).2.2.1 (f_X6_readCommand pg tb).2.2.2.1 (f_X6_readCommand pg tb).2.2.2.2) (f_X6_readSign (f_X6_readCommand pg tb).2 tb 59).2 else (y, v, (f_X6_readCommand pg tb).2) := rfl
    rw [e]
    split
    · exact h
    · split
      · rename_i g
        exact ih _ _ _ (JS_cmd h g)
      · exact h
/-! the history -/
def UN (hi : HiV) (hs : Nat → StV) (v : StV) : Prop := ¬ hi.1 = 0 ∧ hs (f_J9_floorMod_7cf53 (hi.2 - 1) 9).toNatClampNeg = v
theorem un_9 : ∀ x, x < 9 → f_J9_floorMod_7cf53 (f_J9_floorMod_7cf53 (nI x + 1) 9 - 1) 9 = nI x := by decide +kernel
theorem un_note {hi : HiV} {hs : Nat → StV} {v : StV} {k x : Nat} (hk : k ≤ 8) (hx : x < 9) (h1 : hi.1 = nI k) (h2 : hi.2 = nI x) : UN (f_X4_keepDraft hi) (f_X4_draft hi hs v) v := by
  unfold f_X4_keepDraft f_X4_draft
  refine ⟨?_, ?_⟩
  · show ¬ f_J9_min_7cf53 (hi.1 + 1) 8 = 0
    rw [h1, nI_1, q_8, n_min (by omega) (by omega)]
    exact nI_ne0 (by omega) (by omega)
  · show va_up hs hi.2.toNatClampNeg _ (f_J9_floorMod_7cf53 (f_J9_floorMod_7cf53 (hi.2 + 1) 9 - 1) 9).toNatClampNeg = v
    rw [h2, un_9 x hx, va_up_self]
    rfl
/-- how a modification ends -/
def MSH (dn : Nat) (v : StV) (hi : HiV) (hs : Nat → StV) (r : String × Int32 × StV × HiV × (Nat → StV)) : Prop := ¬ r.1 = "" ∧ r.2.2 = (v, hi, hs) ∨ r.1 = "" ∧ r.2.2.2 = (f_X4_keepDraft hi, f_X4_draft hi hs v) ∧ JS dn r.2.2.1
theorem MSH.mono {m : Nat} {v : StV} {hi : HiV} {hs : Nat → StV} {r : String × Int32 × StV × HiV × (Nat → StV)} (h : MSH dn v hi hs r) (hm : m ≤ dn) : MSH m v hi hs r := h.imp id (fun k => ⟨k.1, k.2.1, k.2.2.mono hm⟩)
theorem MS_thr {v : StV} {hi : HiV} {hs : Nat → StV} {E : String} (h : ¬ E = "") : MSH dn v hi hs (E, 0, v, hi, hs) := Or.inl ⟨h, rfl⟩
theorem MS_addDoor {q : McV} {v : StV} {hi : HiV} {hs : Nat → StV} (h : JS dn v) (a b c d : Int32) : MSH (dn + 1) v hi hs (f_X9_addDoor q v hi hs a b c d) := by
  unfold f_X9_addDoor
  split
  · rename_i g
    refine Or.inr ⟨rfl, rfl, ?_⟩
    have hf := thr0 g (f6_newDoor v a b c d)
    obtain ⟨n, d', K, hn, hd, hm, h0, h1, h2, h3⟩ := h.1
    have hlt : v.2.2.1.1 < 8 := by
      unfold f_X8_faultOfNewDoor at hf
      by_cases c1 : f_X2_faultOfRule a b c d = 0
      · rw [if_pos c1] at hf
        by_cases c2 : v.2.2.1.1 < 8
        · exact c2
        · rw [if_neg c2] at hf; exact absurd hf (by decide)
      · rw [if_neg c1] at hf; exact absurd hf c1
    have hd8 : d' < 8 := by
      rw [h0, show (8 : Int32) = nI 8 from rfl, nI_ltI (by omega) (by decide)] at hlt
      exact hlt
    refine ⟨⟨n, d' + 1, K, hn, by omega, by omega, ?_, h1, fun i hi => ⟨(h2 i hi).1, (h2 i hi).2.1, (h2 i hi).2.2.1, by have := (h2 i hi).2.2.2; omega⟩, h3⟩, h.2⟩
    show v.2.2.1.1 + 1 = nI (d' + 1)
    rw [h0, nI_1]
  · rename_i g
    exact MS_thr g
theorem MS_setRule {q : McV} {v : StV} {hi : HiV} {hs : Nat → StV} (h : JS dn v) (x a b c d : Int32) : MSH dn v hi hs (f_X9_setRule q v hi hs x a b c d) := by
  unfold f_X9_setRule
  split
  · split
    · exact Or.inr ⟨rfl, rfl, h.1, h.2⟩
    · rename_i g; exact MS_thr g
  · rename_i g; exact MS_thr g
theorem MS_addException {q : McV} {v : StV} {hi : HiV} {hs : Nat → StV} (h : JS dn v) (x y op : Int32) : MSH dn v hi hs (f_X9_addException q v hi hs x y op) := by
  unfold f_X9_addException
  split
  · rename_i g
    exact Or.inr ⟨rfl, rfl, JS_ins h (thr0 g (f6_newEx v x y)) op⟩
  · rename_i g; exact MS_thr g
theorem MS_liftException {q : McV} {v : StV} {hi : HiV} {hs : Nat → StV} (h : JS dn v) (x y : Int32) : MSH dn v hi hs (f_X9_liftException q v hi hs x y) := by
  unfold f_X9_liftException
  split
  · exact Or.inr ⟨rfl, rfl, rj h.1 x y, h.2⟩
  · rename_i g; exact MS_thr g
theorem MS_setCycle {q : McV} {v : StV} {hi : HiV} {hs : Nat → StV} (h : JS dn v) (x : Int32) : MSH dn v hi hs (f_X9_setCycle q v hi hs x) := by
  unfold f_X9_setCycle
  split
  · exact Or.inr ⟨rfl, rfl, h.1, h.2⟩
  · rename_i g; exact MS_thr g
theorem MS_addPerson {q : McV} {v : StV} {hi : HiV} {hs : Nat → StV} (h : JS dn v) : MSH dn v hi hs (f_X9_addPerson q v hi hs) := by
  unfold f_X9_addPerson
  split
  · rename_i g
    refine Or.inr ⟨rfl, rfl, h.1, ?_⟩
    obtain ⟨n, h1, h2, h3, h4⟩ := h.2
    have hn : n < 6 := by
      rw [h2, show (6 : Int32) = nI 6 from rfl, nI_ltI (by omega) (by decide)] at g
      exact g
    refine ⟨n + 1, by omega, ?_, fun j hj hj6 => h3 j (by omega) hj6, ?_⟩
    · show v.2.2.2.2.1.1 + 1 = nI (n + 1)
      rw [h2, nI_1]
    · show sm v.2.2.2.2.1.2.2 n + v.2.2.2.2.1.2.2 n = _
      rw [h3 n (Nat.le_refl n) hn, h4, Int32.add_zero]
  · exact MS_thr (by decide)
theorem MS_giveKey {q : McV} {v : StV} {hi : HiV} {hs : Nat → StV} (h : JS dn v) (x y : Int32) : MSH dn v hi hs (f_X9_giveKey q v hi hs x y) := by
  unfold f_X9_giveKey
  split
  · exact Or.inr ⟨rfl, rfl, h.1, h.2⟩
  · rename_i g; exact MS_thr g
theorem MS_takeKey {q : McV} {v : StV} {hi : HiV} {hs : Nat → StV} (h : JS dn v) (x y : Int32) : MSH dn v hi hs (f_X9_takeKey q v hi hs x y) := by
  unfold f_X9_takeKey
  split
  · exact Or.inr ⟨rfl, rfl, h.1, h.2⟩
  · rename_i g; exact MS_thr g
theorem MS_tryDoor {q : McV} {v : StV} {hi : HiV} {hs : Nat → StV} (h : JS dn v) (x y : Int32) : MSH dn v hi hs (f_X9_tryDoor q v hi hs x y) := by
  unfold f_X9_tryDoor
  split
  · rename_i g
    exact Or.inr ⟨rfl, rfl, JS_att h (thr0 g (f6_att v x y))⟩
  · rename_i g; exact MS_thr g
theorem MS_advance {q : McV} {v : StV} {hi : HiV} {hs : Nat → StV} (h : JS dn v) (x : Int32) : MSH dn v hi hs (f_X9_advance q v hi hs x) := by
  unfold f_X9_advance
  split
  · exact Or.inr ⟨rfl, rfl, JS_pass h x⟩
  · rename_i g; exact MS_thr g
