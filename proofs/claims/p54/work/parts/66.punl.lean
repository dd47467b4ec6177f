/-! ===== hours unlocked: counted by days, and looked for by days ===== -/
theorem unl_val {v : StV} {j tm : Nat} (ht : tm < 2 ^ 31) : f_X8_isUnlockedAt v (nI j) (nI tm) = if f_X1_effectAt v.2.2.2.1 (f_X1_positionOf v.2.2.2.1 (nI j) (nI (tm / 24))) = 0 then (if f_X2_containsPhase v.2.2.1 (nI j) (f_X8_phaseFor v (nI (tm / 24))) = 0 then 0 else if f_X2_containsHour v.2.2.1 (nI j) (nI (tm % 24)) = 0 then 0 else 1) else if f_X1_effectAt v.2.2.2.1 (f_X1_positionOf v.2.2.2.1 (nI j) (nI (tm / 24))) = 1 then 1 else 0 := by
  have e24 : f_J9_floorMod_7cf53 (nI tm) 24 = nI (tm % 24) := n_fm ht (by decide) (by decide)
  unfold f_X8_isUnlockedAt
  simp only [n_fd ht, e24]
theorem eff_cases {E : ExV} {d : MoV} (h : RE E d.1) (dr dy : Int32) : f_X1_effectAt E (f_X1_positionOf E dr dy) = 0 ∨ f_X1_effectAt E (f_X1_positionOf E dr dy) = 1 ∨ f_X1_effectAt E (f_X1_positionOf E dr dy) = 2 := by
  rcases (c_eff h dr dy).2 with ⟨g, -⟩ | ⟨j, -, -, -, ⟨g, -⟩ | ⟨g, -⟩⟩
  · exact Or.inl g
  · exact Or.inr (Or.inl g)
  · exact Or.inr (Or.inr g)
def sumH (g : Nat → Int32) : Nat → Nat → Int32 → Int32
  | 0, _, a => a
  | k + 1, x, a => sumH g k (x + 1) (if g x = 0 then a + 0 else a + 1)
theorem sumH_add (g : Nat → Int32) : ∀ (k x : Nat) (a : Int32), sumH g k x a = a + sumH g k x 0
  | 0, x, a => (Int32.add_zero a).symm
  | k + 1, x, a => by
    show sumH g k (x + 1) (if g x = 0 then a + 0 else a + 1) = a + sumH g k (x + 1) (if g x = 0 then (0 : Int32) + 0 else 0 + 1)
    rw [sumH_add g k (x + 1) (if g x = 0 then a + 0 else a + 1), sumH_add g k (x + 1) (if g x = 0 then (0 : Int32) + 0 else 0 + 1), ← Int32.add_assoc]
    congr 1
    by_cases h : g x = 0
    · rw [if_pos h, if_pos h, Int32.zero_add]
    · rw [if_neg h, if_neg h, Int32.zero_add]
theorem sumH_congr {g g' : Nat → Int32} : ∀ (k x : Nat) (a : Int32), (∀ y, x ≤ y → y < x + k → g y = g' y) → sumH g k x a = sumH g' k x a
  | 0, _, _, _ => rfl
  | k + 1, x, a, h => by
    show sumH g k (x + 1) (if g x = 0 then a + 0 else a + 1) = sumH g' k (x + 1) (if g' x = 0 then a + 0 else a + 1)
    rw [h x (by omega) (by omega)]
    exact sumH_congr k (x + 1) _ (fun y h1 h2 => h y (by omega) (by omega))
theorem own_sum (d : MoV) (dr : Int32) : ∀ (k x : Nat) (a : Int32), x + k = 24 → lp_X10_ownHours_4 d dr (k + 1) (nI x) a = sumH (fun y => f_X10_isOwnHour d dr (nI y)) k x a := by
  intro k
  induction k with
  | zero =>
    intro x a hx
    show (if (24 : Int32) ≤ nI x then a else _) = a
    rw [show x = 24 by omega, if_pos (by decide)]
  | succ k ih =>
    intro x a hx
    show (if (24 : Int32) ≤ nI x then a else (if f_X10_isOwnHour d dr (nI x) = 0 then lp_X10_ownHours_4 d dr (k + 1) (nI x + 1) (a + 0) else lp_X10_ownHours_4 d dr (k + 1) (nI x + 1) (a + 1))) = sumH (fun y => f_X10_isOwnHour d dr (nI y)) k (x + 1) (if f_X10_isOwnHour d dr (nI x) = 0 then a + 0 else a + 1)
    rw [q_24, if_neg (nI_ge (by omega) (by decide)), nI_1]
    by_cases h : f_X10_isOwnHour d dr (nI x) = 0
    · rw [if_pos h, if_pos h]; exact ih (x + 1) _ (by omega)
    · rw [if_neg h, if_neg h]; exact ih (x + 1) _ (by omega)
theorem sumH_k0 : ∀ (k x : Nat) (a : Int32), sumH (fun _ => 0) k x a = a
  | 0, _, _ => rfl
  | k + 1, x, a => by
    show sumH (fun _ => 0) k (x + 1) (if (0 : Int32) = 0 then a + 0 else a + 1) = a
    rw [if_pos rfl, sumH_k0 k, Int32.add_zero]
theorem sumH_k1 : ∀ (k x : Nat) (a : Int32), sumH (fun _ => 1) k x a = a + nI k
  | 0, _, a => (Int32.add_zero a).symm
  | k + 1, x, a => by
    show sumH (fun _ => 1) k (x + 1) (if (1 : Int32) = 0 then a + 0 else a + 1) = a + nI (k + 1)
    rw [if_neg (by decide), sumH_k1 k, Int32.add_assoc, Int32.add_comm 1, nI_1]
theorem sumH_c0 {g : Nat → Int32} (x : Nat) (h : ∀ y, x ≤ y → y < x + 24 → g y = 0) : sumH g 24 x 0 = 0 := by
  rw [sumH_congr (g' := fun _ => 0) 24 x 0 h, sumH_k0]
theorem sumH_c1 {g : Nat → Int32} (x : Nat) (h : ∀ y, x ≤ y → y < x + 24 → g y = 1) : sumH g 24 x 0 = 24 := by
  rw [sumH_congr (g' := fun _ => 1) 24 x 0 h, sumH_k1, Int32.zero_add]
  rfl
theorem sumH_shift (g : Nat → Int32) : ∀ (k x y : Nat) (a : Int32), sumH g k (x + y) a = sumH (fun z => g (z + y)) k x a
  | 0, _, _, _ => rfl
  | k + 1, x, y, a => by
    show sumH g k (x + y + 1) (if g (x + y) = 0 then a + 0 else a + 1) = sumH (fun z => g (z + y)) k (x + 1) (if g (x + y) = 0 then a + 0 else a + 1)
    rw [show x + y + 1 = x + 1 + y by omega]
    exact sumH_shift g k (x + 1) y _
/-- a day's unlocked hours -/
theorem day_sum {B : Nat} {v : StV} {d : MoV} (h : RS B v d.1) {j y : Nat} (hj : j < 8) (hy : y < 2 ^ 26) : sumH (fun tm => f_X10_unlocked d (nI j) (nI tm)) 24 (24 * y) 0 = f_X8_countHoursOnDay v (nI j) (nI y) := by
  obtain ⟨t, c, ht, hc, hc2, e1, e2, e3, e4, hD, hE, hP, hA⟩ := id h
  have hu : ∀ tm, 24 * y ≤ tm → tm < 24 * y + 24 → f_X10_unlocked d (nI j) (nI tm) = if f_X1_effectAt v.2.2.2.1 (f_X1_positionOf v.2.2.2.1 (nI j) (nI y)) = 0 then (if f_X2_containsPhase v.2.2.1 (nI j) (f_X8_phaseFor v (nI y)) = 0 then 0 else if f_X2_containsHour v.2.2.1 (nI j) (nI (tm % 24)) = 0 then 0 else 1) else if f_X1_effectAt v.2.2.2.1 (f_X1_positionOf v.2.2.2.1 (nI j) (nI y)) = 1 then 1 else 0 := fun tm h1 h2 => by
    have e : tm / 24 = y := by omega
    rw [← (c_unl h hj (tm := tm) (by omega)).1, unl_val (by omega), e]
  unfold f_X8_countHoursOnDay
  rcases eff_cases hE (nI j) (nI y) with g | g | g
  · rw [g] at hu ⊢
    rw [if_neg (show ¬ (0 : Int32) = 1 by decide), if_neg (show ¬ (0 : Int32) = 2 by decide)]
    by_cases gp : f_X2_containsPhase v.2.2.1 (nI j) (f_X8_phaseFor v (nI y)) = 0
    · rw [if_pos gp]
      exact sumH_c0 _ (fun tm h1 h2 => by rw [hu tm h1 h2, if_pos rfl, if_pos gp])
    · rw [if_neg gp]
      have e0 : 24 * y = 0 + 24 * y := by omega
      obtain ⟨k1, k2⟩ := c_hrs (d := d) hD hj
      rw [k1, e0, sumH_shift, show f_X10_ownHours d (nI j) = lp_X10_ownHours_4 d (nI j) (24 + 1) (nI 0) 0 from rfl, own_sum d (nI j) 24 0 0 (by decide)]
      refine sumH_congr 24 0 0 (fun z h1 h2 => ?_)
      show f_X10_unlocked d (nI j) (nI (z + 24 * y)) = f_X10_isOwnHour d (nI j) (nI z)
      rw [hu _ (by omega) (by omega), if_pos rfl, if_neg gp, show (z + 24 * y) % 24 = z by omega, (c_chr (d := d) hD hj (nI z)).1]
      rcases own01 d (nI j) (nI z) with w | w
      · rw [w, if_pos rfl]
      · rw [w, if_neg (by decide)]
  · rw [g] at hu ⊢
    rw [if_pos rfl]
    exact sumH_c1 _ (fun tm h1 h2 => by rw [hu tm h1 h2, if_neg (by decide), if_pos rfl])
  · rw [g] at hu ⊢
    rw [if_neg (show ¬ (2 : Int32) = 1 by decide), if_pos rfl]
    exact sumH_c0 _ (fun tm h1 h2 => by rw [hu tm h1 h2, if_neg (by decide), if_neg (by decide)])
theorem uh_lp {B : Nat} {v : StV} {d : MoV} (h : RS B v d.1) {j E : Nat} (hj : j < 8) (hE : E < 2 ^ 30) (d0 u4 : MoV) (ds y12 : Int32) (he : (24 : Int32) * (f_X10_today d + ds) = nI E) : ∀ (k x : Nat) (a : Int32), x + k = E + 1 → okl_lp_X10_unlockedHours_57 d0 (nI j) ds u4 d y12 k (nI x) a ∧ (1 ≤ k → lp_X10_unlockedHours_57 d0 (nI j) ds u4 d y12 k (nI x) a = (sumH (fun tm => f_X10_unlocked d (nI j) (nI tm)) (k - 1) x a, d)) := by
  intro k
  induction k with
  | zero => intro x a _; exact ⟨trivial, fun h => absurd h (by decide)⟩
  | succ k ih =>
    intro x a hx
    unfold okl_lp_X10_unlockedHours_57 lp_X10_unlockedHours_57
    rw [he]
    by_cases hk : E ≤ x
    · rw [if_pos (nI_le hk (by omega)), if_pos (nI_le hk (by omega)), show k = 0 by omega]
      exact ⟨trivial, fun _ => rfl⟩
    · rw [if_neg (nI_ge (by omega) (by omega)), if_neg (nI_ge (by omega) (by omega)), nI_1]
      obtain ⟨u1, u2, u3⟩ := c_unl h hj (tm := x) (by omega)
      have i0 := ih (x + 1) (a + 0) (by omega)
      have i1 := ih (x + 1) (a + 1) (by omega)
      cases k with
      | zero => omega
      | succ k =>
        show (_ ∧ _) ∧ (_ → _ = (sumH (fun tm => f_X10_unlocked d (nI j) (nI tm)) k (x + 1) (if f_X10_unlocked d (nI j) (nI x) = 0 then a + 0 else a + 1), d))
        by_cases g : f_X10_unlocked d (nI j) (nI x) = 0
        · rw [if_pos g, if_pos g, if_pos g]
          exact ⟨⟨u2, i0.1⟩, fun _ => i0.2 (by omega)⟩
        · rw [if_neg g, if_neg g, if_neg g]
          exact ⟨⟨u2, i1.1⟩, fun _ => i1.2 (by omega)⟩
theorem sumH_split (g : Nat → Int32) : ∀ (k m x : Nat) (a : Int32), sumH g (k + m) x a = sumH g m (x + k) (sumH g k x a)
  | 0, m, x, a => by rw [Nat.zero_add]; rfl
  | k + 1, m, x, a => by
    rw [show k + 1 + m = k + m + 1 by omega]
    show sumH g (k + m) (x + 1) _ = sumH g m (x + (k + 1)) (sumH g k (x + 1) _)
    rw [sumH_split g k m (x + 1), show x + 1 + k = x + (k + 1) by omega]
theorem uh_days {B : Nat} {v : StV} {d : MoV} (h : RS B v d.1) {j T m : Nat} (hj : j < 8) (hT : T + m < 2 ^ 25) (hm : m < 2 ^ 25) (ht : f_X8_today v = nI T) : ∀ (n i : Nat) (a : Int32), i + n = m + 1 → 1 ≤ n → lp_X8_countUnlockedHours_5 v (nI j) (nI m) n (nI i) a = sumH (fun tm => f_X10_unlocked d (nI j) (nI tm)) (24 * (n - 1)) (24 * (T + i)) a := by
  intro n
  induction n with
  | zero => intro i a _ h; exact absurd h (by decide)
  | succ n ih =>
    intro i a hi _
    show (if nI m ≤ nI i then a else lp_X8_countUnlockedHours_5 v (nI j) (nI m) n (nI i + 1) (a + f_X8_countHoursOnDay v (nI j) (f_X8_today v + nI i))) = _
    by_cases hk : m ≤ i
    · rw [if_pos (nI_le hk (by omega)), show n = 0 by omega]
      rfl
    · cases n with
      | zero => omega
      | succ n =>
        rw [if_neg (nI_ge (by omega) (by omega)), ht, nI_add, nI_1, ih (i + 1) _ (by omega) (by omega), ← day_sum h hj (by omega), ← sumH_add, show 24 * (n + 1 + 1 - 1) = 24 + 24 * (n + 1 - 1) by omega, sumH_split, show 24 * (T + (i + 1)) = 24 * (T + i) + 24 by omega]
