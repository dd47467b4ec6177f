/-! ===== what holds of the class's state in every run: exceptions in order, entries counted once ===== -/
variable {dn : Nat}
def JX (dn : Nat) (nd : Int32) (E : ExV) : Prop := ∃ (n d : Nat) (K : Nat → Nat), n ≤ 12 ∧ d ≤ 8 ∧ dn ≤ d ∧ nd = nI d ∧ E.1 = nI n ∧ (∀ i, i < n → E.2.2.1 i = nI (K i / 8) ∧ E.2.1 i = nI (K i % 8) ∧ K i < 8000 ∧ K i % 8 < d) ∧ ∀ i j, i < j → j < n → K i < K j
def JE (p : PeV) (a : AuV) : Prop := ∃ n : Nat, n ≤ 6 ∧ p.1 = nI n ∧ (∀ j, n ≤ j → j < 6 → p.2.2 j = 0) ∧ sm p.2.2 n = a.2.2.2.1 0
def JS (dn : Nat) (v : StV) : Prop := JX dn v.2.2.1.1 v.2.2.2.1 ∧ JE v.2.2.2.2.1 v.2.2.2.2.2
theorem JX_Z : JX 0 0 exZ := ⟨0, 0, fun _ => 0, by omega, by omega, Nat.le_refl 0, rfl, rfl, fun i hi => absurd hi (Nat.not_lt_zero i), fun i j _ hj => absurd hj (Nat.not_lt_zero j)⟩
theorem JE_Z : JE peZ auZ := ⟨0, by omega, rfl, fun j _ _ => rfl, rfl⟩
theorem JS_Z : JS 0 stZ := ⟨JX_Z, JE_Z⟩
/-! where an exception lies -/
theorem po_lp {E : ExV} {n : Nat} (hn : n ≤ 12) (h1 : E.1 = nI n) (dr dy : Int32) : ∀ (k i : Nat), i + k = n + 1 → 0 < k →
    (lp_X1_positionOf_2 E dr dy k (nI i) = -1 ∧ ∀ x, i ≤ x → x < n → ¬ (E.2.2.1 x = dy ∧ E.2.1 x = dr)) ∨ ∃ j, i ≤ j ∧ j < n ∧ lp_X1_positionOf_2 E dr dy k (nI i) = nI j ∧ E.2.2.1 j = dy ∧ E.2.1 j = dr := by
  intro k
  induction k with
  | zero => intro i _ h; exact absurd h (Nat.lt_irrefl 0)
  | succ k ih =>
    intro i hi _
    have e : lp_X1_positionOf_2 E dr dy (k + 1) (nI i) = if E.1 ≤ nI i then (-1 : Int32) else if f_X7_at 12 E.2.2.1 (nI i) = dy then (if f_X7_at 12 E.2.1 (nI i) = dr then nI i else lp_X1_positionOf_2 E dr dy k (nI i + 1)) else lp_X1_positionOf_2 E dr dy k (nI i + 1) := rfl
    rw [e, h1]
    by_cases g : n ≤ i
    · rw [if_pos (nI_le g (by omega))]
      exact Or.inl ⟨rfl, fun x h2 h3 => by omega⟩
    · rw [if_neg (nI_ge (by omega) (by omega)), n_at _ (show i < 12 by omega) (by decide), n_at _ (show i < 12 by omega) (by decide), nI_1]
      have K := ih (i + 1) (by omega) (by omega)
      by_cases g1 : E.2.2.1 i = dy
      · by_cases g2 : E.2.1 i = dr
        · rw [if_pos g1, if_pos g2]
          exact Or.inr ⟨i, Nat.le_refl i, by omega, rfl, g1, g2⟩
        · rw [if_pos g1, if_neg g2]
          rcases K with ⟨k1, k2⟩ | ⟨j, j1, j2, j3⟩
          · exact Or.inl ⟨k1, fun x h2 h3 h4 => by
              by_cases e : x = i
              · subst e; exact g2 h4.2
              · exact k2 x (by omega) h3 h4⟩
          · exact Or.inr ⟨j, by omega, j2, j3⟩
      · rw [if_neg g1]
        rcases K with ⟨k1, k2⟩ | ⟨j, j1, j2, j3⟩
        · exact Or.inl ⟨k1, fun x h2 h3 h4 => by
            by_cases e : x = i
            · subst e; exact g1 h4.1
            · exact k2 x (by omega) h3 h4⟩
        · exact Or.inr ⟨j, by omega, j2, j3⟩
theorem po_spec {E : ExV} {n : Nat} (hn : n ≤ 12) (h1 : E.1 = nI n) (dr dy : Int32) : (f_X1_positionOf E dr dy = -1 ∧ ∀ x, x < n → ¬ (E.2.2.1 x = dy ∧ E.2.1 x = dr)) ∨ ∃ j, j < n ∧ f_X1_positionOf E dr dy = nI j ∧ E.2.2.1 j = dy ∧ E.2.1 j = dr := by
  have := po_lp hn h1 dr dy (n + 1) 0 (by omega) (by omega)
  unfold f_X1_positionOf
  rw [h1, nI_toInt (by omega), show (0 : Int32).toInt = 0 from rfl, show ((n : Int) - 0).toNat + 1 = n + 1 by omega, show (0 : Int32) = nI 0 from rfl]
  rcases this with ⟨k1, k2⟩ | ⟨j, -, j2, j3⟩
  · exact Or.inl ⟨k1, fun x h => k2 x (Nat.zero_le x) h⟩
  · exact Or.inr ⟨j, j2, j3⟩
/-! adding an exception -/
theorem ij_end {E : ExV} {n d : Nat} {K : Nat → Nat} (hn : n < 12) (hd : d ≤ 8) (hdn : dn ≤ d) (h2 : ∀ i, i < n → K i < 8000 ∧ K i % 8 < d) (h3 : ∀ i j, i < j → j < n → K i < K j) {a b : Nat} (ha : a ≤ 999) (hb : b < d) (g : Nat → Int32) {x : Nat} (hx : x ≤ n) (dL : ExV) (e1 : dL.1 = nI n) (e2 : ∀ i, i < x → dL.2.2.1 i = nI (K i / 8) ∧ dL.2.1 i = nI (K i % 8)) (e3 : ∀ i, x < i → i ≤ n → dL.2.2.1 i = nI (K (i - 1) / 8) ∧ dL.2.1 i = nI (K (i - 1) % 8)) (l : ∀ i, i < x → K i < 8 * a + b) (u : ∀ i, x ≤ i → i < n → 8 * a + b < K i) :
    JX dn (nI d) (dL.1 + 1, f_X7_put 12 dL.2.1 (nI x) (nI b), f_X7_put 12 dL.2.2.1 (nI x) (nI a), g) := by
  rw [n_put _ _ (show x < 12 by omega) (by decide), n_put _ _ (show x < 12 by omega) (by decide), e1, nI_1]
  refine ⟨n + 1, d, fun i => if i < x then K i else if i = x then 8 * a + b else K (i - 1), by omega, hd, hdn, rfl, rfl, fun i hi => ?_, fun i j hij hj => ?_⟩
  · show upd dL.2.2.1 x (nI a) i = _ ∧ upd dL.2.1 x (nI b) i = _ ∧ _
    by_cases c1 : i < x
    · obtain ⟨p1, p2⟩ := e2 i c1
      obtain ⟨q1, q2⟩ := h2 i (by omega)
      simp only [if_pos c1]
      rw [upd_ne _ _ (by omega), upd_ne _ _ (by omega)]
      exact ⟨p1, p2, q1, q2⟩
    · by_cases c2 : i = x
      · subst c2
        simp only [if_neg c1, if_true]
        rw [upd_eq, upd_eq, show (8 * a + b) / 8 = a by omega, show (8 * a + b) % 8 = b by omega]
        exact ⟨rfl, rfl, by omega, hb⟩
      · obtain ⟨p1, p2⟩ := e3 i (by omega) (by omega)
        obtain ⟨q1, q2⟩ := h2 (i - 1) (by omega)
        simp only [if_neg c1, if_neg c2]
        rw [upd_ne _ _ c2, upd_ne _ _ c2]
        exact ⟨p1, p2, q1, q2⟩
  · by_cases c1 : i < x
    · simp only [if_pos c1]
      by_cases c2 : j < x
      · simp only [if_pos c2]; exact h3 i j hij (by omega)
      · simp only [if_neg c2]
        by_cases c3 : j = x
        · simp only [if_pos c3]; exact l i c1
        · simp only [if_neg c3]; exact h3 i (j - 1) (by omega) (by omega)
    · have c2 : ¬ j < x := by omega
      have c3 : ¬ j = x := by omega
      simp only [if_neg c1, if_neg c2, if_neg c3]
      by_cases c4 : i = x
      · simp only [if_pos c4]; exact u (j - 1) (by omega) (by omega)
      · simp only [if_neg c4]; exact h3 (i - 1) (j - 1) (by omega) (by omega)
theorem ij_lp {E : ExV} {n d : Nat} {K : Nat → Nat} (hn : n < 12) (hd : d ≤ 8) (hdn : dn ≤ d) (h2 : ∀ i, i < n → K i < 8000 ∧ K i % 8 < d) (h3 : ∀ i j, i < j → j < n → K i < K j) {a b : Nat} (ha : a ≤ 999) (hb : b < d) (op : Int32) (hne : ∀ i, i < n → K i ≠ 8 * a + b) : ∀ (m x : Nat) (dL : ExV), m = x + 1 → x ≤ n → dL.1 = nI n → (∀ i, i < x → dL.2.2.1 i = nI (K i / 8) ∧ dL.2.1 i = nI (K i % 8)) → (∀ i, x < i → i ≤ n → dL.2.2.1 i = nI (K (i - 1) / 8) ∧ dL.2.1 i = nI (K (i - 1) % 8)) → (∀ i, x ≤ i → i < n → 8 * a + b < K i) →
    JX dn (nI d) (lp_X1_insert_6 E (nI b) (nI a) op m (nI x) dL).2 := by
  intro m
  induction m with
  | zero => intro x dL h; omega
  | succ m ih =>
    intro x dL hm hx e1 e2 e3 u
    have hx12 : x < 12 := by omega
    rw [ins_step]
    have fin : (∀ i, i < x → K i < 8 * a + b) → JX dn (nI d) (dL.1 + 1, (dL.1 + 1, f_X7_put 12 dL.2.1 (nI x) (nI b), f_X7_put 12 dL.2.2.1 (nI x) (nI a), if op = 0 then f_X7_put 12 dL.2.2.2 (nI x) 2 else f_X7_put 12 dL.2.2.2 (nI x) 1)).2 := fun l => ij_end (E := E) hn hd hdn h2 h3 ha hb _ hx dL e1 e2 e3 l u
    by_cases hx0 : x = 0
    · subst hx0
      rw [if_pos (show nI 0 ≤ (0 : Int32) by decide)]
      exact fin (fun i hi => absurd hi (Nat.not_lt_zero i))
    · have ex : nI x - 1 = nI (x - 1) := by rw [q_1, pk_sub (by omega)]
      have em : nI x + (-1) = nI (x - 1) := sb_m1 (by omega)
      rw [if_neg (nI_nle (by omega) (by omega)), ex, em]
      obtain ⟨p1, p2⟩ := e2 (x - 1) (by omega)
      obtain ⟨k1, k2⟩ := h2 (x - 1) (by omega)
      have ea : f_X1_isAfter dL (nI (x - 1)) (nI b) (nI a) = if nI a < nI (K (x - 1) / 8) then 1 else if nI (K (x - 1) / 8) = nI a then (if nI (K (x - 1) % 8) ≤ nI b then 0 else 1) else 0 := by
        unfold f_X1_isAfter
        rw [n_at _ (show x - 1 < 12 by omega) (by decide), n_at _ (show x - 1 < 12 by omega) (by decide), p1, p2]
      have low : K (x - 1) < 8 * a + b → ∀ i, i < x → K i < 8 * a + b := fun h i hi => by
        by_cases e : i = x - 1
        · subst e; exact h
        · exact Nat.lt_trans (h3 i (x - 1) (by omega) (by omega)) h
      have up : 8 * a + b < K (x - 1) → JX dn (nI d) (lp_X1_insert_6 E (nI b) (nI a) op m (nI (x - 1)) (f_X1_move dL (nI (x - 1)) (nI x))).2 := fun h => by
        rw [c_move dL (show x - 1 < 12 by omega) hx12]
        refine ih (x - 1) _ (by omega) (by omega) e1 (fun i hi => ?_) (fun i hi hin => ?_) (fun i hi hin => ?_)
        · show upd dL.2.2.1 x (dL.2.2.1 (x - 1)) i = _ ∧ upd dL.2.1 x (dL.2.1 (x - 1)) i = _
          rw [upd_ne _ _ (by omega), upd_ne _ _ (by omega)]
          exact e2 i (by omega)
        · show upd dL.2.2.1 x (dL.2.2.1 (x - 1)) i = _ ∧ upd dL.2.1 x (dL.2.1 (x - 1)) i = _
          by_cases e : i = x
          · subst e
            rw [upd_eq, upd_eq]
            exact ⟨p1, p2⟩
          · rw [upd_ne _ _ e, upd_ne _ _ e]
            exact e3 i (by omega) hin
        · by_cases e : i = x - 1
          · subst e; exact h
          · exact u i (by omega) hin
      have hb31 : b < 2 ^ 31 := by omega
      have ha31 : a < 2 ^ 31 := by omega
      have ne := hne (x - 1) (by omega)
      rw [ea]
      simp only [nI_ltI ha31 (show K (x - 1) / 8 < 2 ^ 31 by omega), nI_eq (show K (x - 1) / 8 < 2 ^ 31 by omega) ha31, nI_leI (show K (x - 1) % 8 < 2 ^ 31 by omega) hb31]
      by_cases g1 : a < K (x - 1) / 8
      · simp only [if_pos g1]
        rw [if_neg (by decide)]
        exact up (by omega)
      · simp only [if_neg g1]
        by_cases g2 : K (x - 1) / 8 = a
        · simp only [if_pos g2]
          by_cases g3 : K (x - 1) % 8 ≤ b
          · simp only [if_pos g3]
            exact fin (low (by omega))
          · simp only [if_neg g3]
            rw [if_neg (by decide)]
            exact up (by omega)
        · simp only [if_neg g2]
          exact fin (low (by omega))
theorem JS.mono {m : Nat} {v : StV} (h : JS dn v) (hm : m ≤ dn) : JS m v := by
  obtain ⟨⟨n, d, K, h1, h2, h3, h4⟩, h5⟩ := h
  exact ⟨⟨n, d, K, h1, h2, Nat.le_trans hm h3, h4⟩, h5⟩
theorem ij {nd : Int32} {E : ExV} (h : JX dn nd E) {dr dy : Int32} (hdr : ∃ b : Nat, dr = nI b ∧ (∀ d : Nat, d ≤ 8 → nd = nI d → b < d)) (hdy : ∃ a : Nat, a ≤ 999 ∧ dy = nI a) (hp : f_X1_positionOf E dr dy = -1) (hlt : E.1 < 12) (op : Int32) : JX dn nd (f_X1_insert E dr dy op).2 := by
  obtain ⟨n, d, K, hn, hd, hdn, h0, h1, h2, h3⟩ := h
  obtain ⟨b, rfl, hb⟩ := hdr
  obtain ⟨a, ha, rfl⟩ := hdy
  have hb2 : b < d := hb d hd h0
  subst h0
  have hn12 : n < 12 := by
    rw [h1, show (12 : Int32) = nI 12 from rfl, nI_ltI (by omega) (by decide)] at hlt
    exact hlt
  have hne : ∀ i, i < n → K i ≠ 8 * a + b := fun i hi e => by
    rcases po_spec hn h1 (nI b) (nI a) with ⟨-, g⟩ | ⟨j, j1, j2, -⟩
    · obtain ⟨p1, p2, -⟩ := h2 i hi
      refine g i hi ⟨?_, ?_⟩
      · rw [p1, e, show (8 * a + b) / 8 = a by omega]
      · rw [p2, e, show (8 * a + b) % 8 = b by omega]
    · rw [j2] at hp
      exact absurd hp (fun q => ((q_neM (show j < 2 ^ 31 by omega)).mp q))
  unfold f_X1_insert
  rw [h1, nI_toInt (by omega), show ((n : Int)).toNat + 1 = n + 1 by omega]
  exact ij_lp hn12 hd hdn (fun i hi => ⟨(h2 i hi).2.2.1, (h2 i hi).2.2.2⟩) h3 ha hb2 op hne (n + 1) n E rfl (Nat.le_refl n) h1 (fun i hi => ⟨(h2 i hi).1, (h2 i hi).2.1⟩) (fun i h4 h5 => by omega) (fun i h4 h5 => by omega)
/-! lifting one -/
theorem rj_lp {E : ExV} {n d p : Nat} {K : Nat → Nat} (hn : n ≤ 12) (hd : d ≤ 8) (hdn : dn ≤ d) (hp : p < n) (h2 : ∀ i, i < n → E.2.2.1 i = nI (K i / 8) ∧ E.2.1 i = nI (K i % 8) ∧ K i < 8000 ∧ K i % 8 < d) (h3 : ∀ i j, i < j → j < n → K i < K j) (dr dy y : Int32) : ∀ (m x : Nat) (dL : ExV), m + x = n + 1 → p + 1 ≤ x → x ≤ n → dL.1 = nI n → (∀ i, i < p → dL.2.2.1 i = E.2.2.1 i ∧ dL.2.1 i = E.2.1 i) → (∀ i, p ≤ i → i + 1 < x → dL.2.2.1 i = E.2.2.1 (i + 1) ∧ dL.2.1 i = E.2.1 (i + 1)) → (∀ i, x ≤ i → dL.2.2.1 i = E.2.2.1 i ∧ dL.2.1 i = E.2.1 i) →
    JX dn (nI d) (lp_X1_remove_35 E dr dy y m (nI x) dL).2 ∧ JX dn (nI d) (lp_X1_remove_35' E dr dy y m (nI x) dL).2 := by
  intro m
  induction m with
  | zero => intro x dL h; omega
  | succ m ih =>
    intro x dL hm hx hxn e1 e2 e3 e4
    have s1 : lp_X1_remove_35 E dr dy y (m + 1) (nI x) dL = if dL.1 ≤ nI x then ((0 : Int32), (dL.1 - 1, dL.2.1, dL.2.2.1, dL.2.2.2)) else lp_X1_remove_35 E dr dy y m (nI x + 1) (f_X1_move dL (nI x) (nI x - 1)) := rfl
    have s2 : lp_X1_remove_35' E dr dy y (m + 1) (nI x) dL = if dL.1 ≤ nI x then ((1 : Int32), (dL.1 - 1, dL.2.1, dL.2.2.1, dL.2.2.2)) else lp_X1_remove_35' E dr dy y m (nI x + 1) (f_X1_move dL (nI x) (nI x - 1)) := rfl
    rw [s1, s2, e1]
    by_cases g : n ≤ x
    · have gx : x = n := by omega
      subst gx
      rw [if_pos (nI_le g (by omega)), if_pos (nI_le g (by omega))]
      have J : JX dn (nI d) (nI x - 1, dL.2.1, dL.2.2.1, dL.2.2.2) := by
        refine ⟨x - 1, d, fun i => if i < p then K i else K (i + 1), by omega, hd, hdn, rfl, by rw [q_1, pk_sub (by omega)], fun i hi => ?_, fun i j hij hj => ?_⟩
        · show dL.2.2.1 i = _ ∧ dL.2.1 i = _ ∧ _
          by_cases c : i < p
          · simp only [if_pos c]
            rw [(e2 i c).1, (e2 i c).2]
            exact h2 i (by omega)
          · simp only [if_neg c]
            rw [(e3 i (by omega) (by omega)).1, (e3 i (by omega) (by omega)).2]
            exact h2 (i + 1) (by omega)
        · by_cases c : i < p
          · simp only [if_pos c]
            by_cases c2 : j < p
            · simp only [if_pos c2]; exact h3 i j hij (by omega)
            · simp only [if_neg c2]; exact h3 i (j + 1) (by omega) (by omega)
          · simp only [if_neg c, if_neg (show ¬ j < p by omega)]
            exact h3 (i + 1) (j + 1) (by omega) (by omega)
      exact ⟨J, J⟩
    · rw [if_neg (nI_ge (by omega) (by omega)), if_neg (nI_ge (by omega) (by omega)), nI_1, show nI x - 1 = nI (x - 1) by rw [q_1, pk_sub (by omega)], c_move dL (show x < 12 by omega) (show x - 1 < 12 by omega)]
      refine ih (x + 1) _ (by omega) (by omega) (by omega) e1 (fun i hi => ?_) (fun i hi hix => ?_) (fun i hi => ?_)
      · show upd dL.2.2.1 (x - 1) (dL.2.2.1 x) i = _ ∧ upd dL.2.1 (x - 1) (dL.2.1 x) i = _
        rw [upd_ne _ _ (by omega), upd_ne _ _ (by omega)]
        exact e2 i hi
      · show upd dL.2.2.1 (x - 1) (dL.2.2.1 x) i = _ ∧ upd dL.2.1 (x - 1) (dL.2.1 x) i = _
        by_cases e : i = x - 1
        · subst e
          rw [upd_eq, upd_eq, show x - 1 + 1 = x by omega]
          exact e4 x (Nat.le_refl x)
        · rw [upd_ne _ _ e, upd_ne _ _ e]
          exact e3 i hi (by omega)
      · show upd dL.2.2.1 (x - 1) (dL.2.2.1 x) i = _ ∧ upd dL.2.1 (x - 1) (dL.2.1 x) i = _
        rw [upd_ne _ _ (by omega), upd_ne _ _ (by omega)]
        exact e4 i (by omega)
theorem rj {nd : Int32} {E : ExV} (h : JX dn nd E) (dr dy : Int32) : JX dn nd (f_X1_remove E dr dy).2 := by
  have h0 := h
  obtain ⟨n, d, K, hn, hd, hdn, e0, h1, h2, h3⟩ := h
  have e : f_X1_remove E dr dy = if f_X1_positionOf E dr dy = -1 then (0, E) else if f_X1_effectAt E (f_X1_positionOf E dr dy) = 1 then lp_X1_remove_35' E dr dy (f_X1_positionOf E dr dy) ((E.1.toInt - (f_X1_positionOf E dr dy + 1).toInt).toNat + 1) (f_X1_positionOf E dr dy + 1) E else lp_X1_remove_35 E dr dy (f_X1_positionOf E dr dy) ((E.1.toInt - (f_X1_positionOf E dr dy + 1).toInt).toNat + 1) (f_X1_positionOf E dr dy + 1) E := rfl
  rw [e]
  rcases po_spec hn h1 dr dy with ⟨g, -⟩ | ⟨j, j1, j2, -⟩
  · rw [if_pos g]; exact h0
  · rw [j2, if_neg (fun q => ((q_neM (show j < 2 ^ 31 by omega)).mp q)), nI_1, h1, nI_toInt (by omega), nI_toInt (by omega), show ((n : Int) - ((j + 1 : Nat) : Int)).toNat + 1 = n - j by omega]
    subst e0
    have := rj_lp (d := d) hn hd hdn j1 h2 h3 dr dy (nI j) (n - j) (j + 1) E (by omega) (by omega) (by omega) h1 (fun i hi => ⟨rfl, rfl⟩) (fun i hi hi2 => by omega) (fun i hi => ⟨rfl, rfl⟩)
    split
    · exact this.2
    · exact this.1
