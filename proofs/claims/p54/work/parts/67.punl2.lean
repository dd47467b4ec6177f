theorem R_unlockedHours {B : Nat} {q : McV} {v sn : StV} {hi : HiV} {hs : Nat → StV} {tb nt : SbV} {d : MoV} (h : RW B q v sn hi hs tb nt d) (x y : Int32) (hB : B < 2 ^ 25) : ok_X10_unlockedHours d x y ∧ RC ["java/lang/IndexOutOfBoundsException", "java/lang/IllegalArgumentException"] (f_X9_unlockedHours q v x y).1 (f_X9_unlockedHours q v x y).2 (f_X10_unlockedHours d x y).1 (f_X10_unlockedHours d x y).2.2.2.2.2.2.1 ∧ RW B q v sn hi hs tb nt (f_X10_unlockedHours d x y).2 := by
  obtain ⟨t, c, ht, hc, hc2, e1, e2, e3, e4, hD, hE, hP, hA⟩ := id h.1
  refine g_door h x ["java/lang/IllegalArgumentException"] (if f_X9_requireRange y 1 99 = "" then ("", f_X8_countUnlockedHours v x y) else (f_X9_requireRange y 1 99, 0)) (if f_X10_isIn y 1 99 = 0 then (0, mo5 d 2) else lp_X10_unlockedHours_57 d x y (mo5 d 0) (mo5 d 0) (24 * f_X10_today (mo5 d 0)) ((((24 : Int32) * (f_X10_today (mo5 d 0) + y)).toInt - (24 * f_X10_today (mo5 d 0)).toInt).toNat + 1) (24 * f_X10_today (mo5 d 0)) 0) (if f_X10_isIn y 1 99 = 0 then True else okl_lp_X10_unlockedHours_57 d x y (mo5 d 0) (mo5 d 0) (24 * f_X10_today (mo5 d 0)) ((((24 : Int32) * (f_X10_today (mo5 d 0) + y)).toInt - (24 * f_X10_today (mo5 d 0)).toInt).toNat + 1) (24 * f_X10_today (mo5 d 0)) 0) (fun j hj e => ?_)
  subst e
  rcases g_rng y 1 99 with ⟨r1, r2⟩ | ⟨r1, r2, r3, r4⟩
  · rw [r1, r2, if_pos rfl, if_neg (by decide), if_pos rfl]
    exact ⟨trivial, RC.x2 (by decide), h.thr 2⟩
  · rw [r1, r2, if_neg (by decide), if_pos rfl, if_neg (by decide)]
    obtain ⟨m, m1, m2, rfl⟩ := g_nat (lo := 1) (n := 99) (by decide) (by decide) r3 r4
    have td : f_X10_today (mo5 d 0) = nI (t / 24) := m_today (d := mo5 d 0) e2 (by omega)
    have ea : (24 : Int32) * (nI (t / 24) + nI m) = nI (24 * (t / 24 + m)) := by rw [nI_add, q_24, pk_mul]
    have eb : (24 : Int32) * nI (t / 24) = nI (24 * (t / 24)) := by rw [q_24, pk_mul]
    rw [td, ea, eb, nI_toInt (by omega), nI_toInt (by omega), show ((24 * (t / 24 + m) : Nat) - (24 * (t / 24) : Nat) : Int).toNat + 1 = 24 * m + 1 by omega]
    obtain ⟨k1, k2⟩ := uh_lp (d := mo5 d 0) h.1 hj (E := 24 * (t / 24 + m)) (by omega) d (mo5 d 0) (nI m) (nI (24 * (t / 24))) (by rw [td, ea]) (24 * m + 1) (24 * (t / 24)) 0 (by omega)
    rw [k2 (by omega)]
    refine ⟨k1, RC.ok ?_, h.thr 0⟩
    have := uh_days (d := mo5 d 0) h.1 hj (T := t / 24) (m := m) (by omega) (by omega) (c_today e1 (by omega)) (m + 1) 0 0 (by omega) (by omega)
    unfold f_X8_countUnlockedHours
    rw [nI_toInt (by omega), show (0 : Int32).toInt = 0 from rfl, show ((m : Int) - 0).toNat + 1 = m + 1 by omega]
    exact this
/-! looking day by day -/
theorem hr_own {v : DoV} {s : Nat → Int32} (h : RD v s) {j : Nat} (hj : j < 8) : ∃ b c, b < 24 ∧ c < 24 ∧ v.2.2.1 j = nI b ∧ ∀ x, x < 24 → (f_X2_containsHour v (nI j) (nI x) = 1 ∧ (if c < b then b ≤ x ∨ x ≤ c else b ≤ x ∧ x ≤ c) ∨ f_X2_containsHour v (nI j) (nI x) = 0 ∧ ¬ (if c < b then b ≤ x ∨ x ≤ c else b ≤ x ∧ x ≤ c)) := by
  obtain ⟨n, -, -, -, h4⟩ := h
  obtain ⟨a, b, c, e, -, hb, hc, -, r1, r2, r3, r4, -⟩ := h4 j hj
  refine ⟨b, c, hb, hc, r2, fun x hx => ?_⟩
  unfold f_X2_containsHour
  rw [n_at _ hj (by decide), n_at _ hj (by decide), r2, r3]
  simp only [nI_ltI (show c < 2 ^ 31 by omega) (show b < 2 ^ 31 by omega), nI_leI (show b < 2 ^ 31 by omega) (show x < 2 ^ 31 by omega), nI_ltI (show c < 2 ^ 31 by omega) (show x < 2 ^ 31 by omega), nI_ltI (show x < 2 ^ 31 by omega) (show b < 2 ^ 31 by omega)]
  by_cases g : c < b
  · simp only [if_pos g]
    by_cases g1 : b ≤ x
    · rw [if_pos g1]; exact Or.inl ⟨rfl, Or.inl g1⟩
    · rw [if_neg g1]
      by_cases g2 : c < x
      · rw [if_pos g2]; exact Or.inr ⟨rfl, by omega⟩
      · rw [if_neg g2]; exact Or.inl ⟨rfl, by omega⟩
  · simp only [if_neg g]
    by_cases g1 : x < b
    · rw [if_pos g1]; exact Or.inr ⟨rfl, by omega⟩
    · rw [if_neg g1]
      by_cases g2 : c < x
      · rw [if_pos g2]; exact Or.inr ⟨rfl, by omega⟩
      · rw [if_neg g2]; exact Or.inl ⟨rfl, by omega⟩
theorem first_spec {B : Nat} {v : StV} {d : MoV} (h : RS B v d.1) {j y f : Nat} (hj : j < 8) (hy : y < 2 ^ 26) (hf : f < 24) : (f_X8_firstUnlockedHour v (nI j) (nI y) (nI f) = -1 ∧ ∀ x, f ≤ x → x < 24 → f_X10_unlocked d (nI j) (nI (24 * y + x)) = 0) ∨
    ∃ x, f ≤ x ∧ x < 24 ∧ f_X8_firstUnlockedHour v (nI j) (nI y) (nI f) = nI x ∧ f_X10_unlocked d (nI j) (nI (24 * y + x)) = 1 ∧ ∀ z, f ≤ z → z < x → f_X10_unlocked d (nI j) (nI (24 * y + z)) = 0 := by
  obtain ⟨t, c, ht, hc, hc2, e1, e2, e3, e4, hD, hE, hP, hA⟩ := id h
  have hu : ∀ x, x < 24 → f_X10_unlocked d (nI j) (nI (24 * y + x)) = if f_X1_effectAt v.2.2.2.1 (f_X1_positionOf v.2.2.2.1 (nI j) (nI y)) = 0 then (if f_X2_containsPhase v.2.2.1 (nI j) (f_X8_phaseFor v (nI y)) = 0 then 0 else if f_X2_containsHour v.2.2.1 (nI j) (nI x) = 0 then 0 else 1) else if f_X1_effectAt v.2.2.2.1 (f_X1_positionOf v.2.2.2.1 (nI j) (nI y)) = 1 then 1 else 0 := fun x hx => by
    rw [← (c_unl h hj (tm := 24 * y + x) (by omega)).1, unl_val (by omega), show (24 * y + x) / 24 = y by omega, show (24 * y + x) % 24 = x by omega]
  unfold f_X8_firstUnlockedHour
  rcases eff_cases hE (nI j) (nI y) with g | g | g
  · simp only [g] at hu ⊢
    rw [if_neg (show ¬ (0 : Int32) = 1 by decide), if_neg (show ¬ (0 : Int32) = 2 by decide)]
    simp only [eq_self, ite_true] at hu
    by_cases gp : f_X2_containsPhase v.2.2.1 (nI j) (f_X8_phaseFor v (nI y)) = 0
    · rw [if_pos gp]
      exact Or.inl ⟨rfl, fun x h1 h2 => by rw [hu x h2, if_pos gp]⟩
    · rw [if_neg gp]
      simp only [gp, ite_false] at hu
      obtain ⟨b, c', hb, hc', hb2, own⟩ := hr_own hD hj
      have w0 : ∀ x, x < 24 → ¬ (if c' < b then b ≤ x ∨ x ≤ c' else b ≤ x ∧ x ≤ c') → f_X10_unlocked d (nI j) (nI (24 * y + x)) = 0 := fun x hx hn => by
        rcases own x hx with ⟨-, o⟩ | ⟨o, -⟩
        · exact absurd o hn
        · rw [hu x hx, o, if_pos rfl]
      have w1 : ∀ x, x < 24 → (if c' < b then b ≤ x ∨ x ≤ c' else b ≤ x ∧ x ≤ c') → f_X10_unlocked d (nI j) (nI (24 * y + x)) = 1 := fun x hx hn => by
        rcases own x hx with ⟨o, -⟩ | ⟨-, o⟩
        · rw [hu x hx, o, if_neg (by decide)]
        · exact absurd hn o
      unfold f_X2_firstHourFrom
      rw [n_at _ hj (by decide), hb2]
      simp only [nI_leI (show b < 2 ^ 31 by omega) (show f < 2 ^ 31 by omega)]
      rcases own f hf with ⟨o1, o2⟩ | ⟨o1, o2⟩
      · rw [o1, if_neg (by decide)]
        exact Or.inr ⟨f, Nat.le_refl f, hf, rfl, w1 f hf o2, fun z h1 h2 => by omega⟩
      · rw [o1, if_pos rfl]
        by_cases gb : b ≤ f
        · rw [if_pos gb]
          refine Or.inl ⟨rfl, fun x h1 h2 => w0 x h2 ?_⟩
          by_cases g2 : c' < b
          · rw [if_pos g2] at o2 ⊢; omega
          · rw [if_neg g2] at o2 ⊢; omega
        · rw [if_neg gb]
          refine Or.inr ⟨b, by omega, hb, rfl, w1 b hb ?_, fun z h1 h2 => w0 z (by omega) ?_⟩
          · by_cases g2 : c' < b
            · rw [if_pos g2]; omega
            · rw [if_neg g2]; omega
          · by_cases g2 : c' < b
            · rw [if_pos g2] at o2 ⊢; omega
            · rw [if_neg g2] at o2 ⊢; omega
  · simp only [g, eq_self, ite_true, ite_false, L10] at hu ⊢
    exact Or.inr ⟨f, Nat.le_refl f, hf, rfl, hu f hf, fun z h1 h2 => by omega⟩
  · simp only [g, eq_self, ite_true, ite_false, eq_false (show ¬ (2 : Int32) = 0 by decide), eq_false (show ¬ (2 : Int32) = 1 by decide)] at hu ⊢
    exact Or.inl ⟨trivial, fun x h1 h2 => hu x h2⟩
theorem dbd_lp {B : Nat} {v : StV} {d : MoV} (h : RS B v d.1) {t j : Nat} (e1 : v.1 = nI t) (ht : t < 2 ^ 26) (hj : j < 8) : ∀ (n k : Nat), k + n = 44 → 1 ≤ n → (∀ z, z + t % 24 < 24 * k → f_X10_unlocked d (nI j) (nI (t + z)) = 0) →
    (lp_X8_lookDayByDay_7 v (nI j) n (nI k) = -1 ∧ ∀ z, z ≤ 1000 → f_X10_unlocked d (nI j) (nI (t + z)) = 0) ∨ ∃ z, z ≤ 1000 ∧ lp_X8_lookDayByDay_7 v (nI j) n (nI k) = nI z ∧ f_X10_unlocked d (nI j) (nI (t + z)) = 1 ∧ ∀ y, y < z → f_X10_unlocked d (nI j) (nI (t + y)) = 0 := by
  have ep : f_X8_hourNow v = nI (t % 24) := c_hour e1 (by omega)
  have eT : f_X8_today v = nI (t / 24) := c_today e1 (by omega)
  have p24 : t % 24 < 24 := Nat.mod_lt _ (by decide)
  intro n
  induction n with
  | zero => intro k _ h; exact absurd h (by decide)
  | succ n ih =>
    intro k hk _ hz
    have tp : (nI (t % 24)).toInt = ((t % 24 : Nat) : Int) := nI_toInt (by omega)
    have tk : (nI k).toInt = (k : Int) := nI_toInt (by omega)
    have ec : (nI k * (24 : Int32) - nI (t % 24)).toInt = (k : Int) * 24 - ((t % 24 : Nat) : Int) := by
      rw [lkI_c (by rw [tp]; omega) (by rw [tp]; omega) (by rw [tk]; omega) (by rw [tk]; omega), tp, tk]
    have ev : ∀ x, x < 24 → t % 24 ≤ 24 * k + x → (nI k * (24 : Int32) - nI (t % 24)) + nI x = nI (24 * k + x - t % 24) := fun x hx hx2 => by
      apply Int32.toInt_inj.mp
      rw [Int32.toInt_add, ec, nI_toInt (by omega), nI_toInt (by omega), Int.bmod_eq_of_le (by omega) (by omega)]
      omega
    have F : ∀ f, f < 24 → t % 24 ≤ 24 * k + f → (∀ z, z + t % 24 < 24 * k + f → f_X10_unlocked d (nI j) (nI (t + z)) = 0) → ∀ (W : Int32), W = (if f_X8_firstUnlockedHour v (nI j) (nI (t / 24 + k)) (nI f) = -1 then lp_X8_lookDayByDay_7 v (nI j) n (nI (k + 1)) else if (1000 : Int32) < (nI k * (24 : Int32) - nI (t % 24)) + f_X8_firstUnlockedHour v (nI j) (nI (t / 24 + k)) (nI f) then -1 else (nI k * (24 : Int32) - nI (t % 24)) + f_X8_firstUnlockedHour v (nI j) (nI (t / 24 + k)) (nI f)) → k ≤ 42 →
        (W = -1 ∧ ∀ z, z ≤ 1000 → f_X10_unlocked d (nI j) (nI (t + z)) = 0) ∨ ∃ z, z ≤ 1000 ∧ W = nI z ∧ f_X10_unlocked d (nI j) (nI (t + z)) = 1 ∧ ∀ y, y < z → f_X10_unlocked d (nI j) (nI (t + y)) = 0 := by
      intro f hf hf2 hf3 W hW hk42
      rcases first_spec (d := d) h hj (y := t / 24 + k) (by omega) hf with ⟨g1, g2⟩ | ⟨x, x1, x2, g1, g2, g3⟩
      · rw [g1, if_pos rfl] at hW
        rw [hW]
        refine ih (k + 1) (by omega) (by omega) (fun z hz2 => ?_)
        by_cases e : z + t % 24 < 24 * k + f
        · exact hf3 z e
        · have := g2 (z + t % 24 - 24 * k) (by omega) (by omega)
          rw [show 24 * (t / 24 + k) + (z + t % 24 - 24 * k) = t + z by omega] at this
          exact this
      · rw [g1, if_neg (fun g => (q_neM (by omega)).mp g), ev x x2 (by omega)] at hW
        have all : ∀ y, y < 24 * k + x - t % 24 → f_X10_unlocked d (nI j) (nI (t + y)) = 0 := fun y hy => by
          by_cases e : y + t % 24 < 24 * k + f
          · exact hf3 y e
          · have := g3 (y + t % 24 - 24 * k) (by omega) (by omega)
            rw [show 24 * (t / 24 + k) + (y + t % 24 - 24 * k) = t + y by omega] at this
            exact this
        rw [show 24 * (t / 24 + k) + x = t + (24 * k + x - t % 24) by omega] at g2
        by_cases e : 1000 < 24 * k + x - t % 24
        · rw [if_pos (show (1000 : Int32) < nI (24 * k + x - t % 24) from nI_lt (a := 1000) e (by omega))] at hW
          exact Or.inl ⟨hW, fun z hz2 => all z (by omega)⟩
        · rw [if_neg (show ¬ (1000 : Int32) < nI (24 * k + x - t % 24) from nI_nlt (a := 1000) (by omega) (by decide))] at hW
          exact Or.inr ⟨24 * k + x - t % 24, by omega, hW, g2, all⟩
    have hstep : lp_X8_lookDayByDay_7 v (nI j) (n + 1) (nI k) = if (1000 : Int32) < nI k * (24 : Int32) - nI (t % 24) then -1 else if nI k = 0 then (if f_X8_firstUnlockedHour v (nI j) (nI (t / 24 + k)) (nI (t % 24)) = -1 then lp_X8_lookDayByDay_7 v (nI j) n (nI (k + 1)) else if (1000 : Int32) < (nI k * (24 : Int32) - nI (t % 24)) + f_X8_firstUnlockedHour v (nI j) (nI (t / 24 + k)) (nI (t % 24)) then -1 else (nI k * (24 : Int32) - nI (t % 24)) + f_X8_firstUnlockedHour v (nI j) (nI (t / 24 + k)) (nI (t % 24))) else (if f_X8_firstUnlockedHour v (nI j) (nI (t / 24 + k)) (nI 0) = -1 then lp_X8_lookDayByDay_7 v (nI j) n (nI (k + 1)) else if (1000 : Int32) < (nI k * (24 : Int32) - nI (t % 24)) + f_X8_firstUnlockedHour v (nI j) (nI (t / 24 + k)) (nI 0) then -1 else (nI k * (24 : Int32) - nI (t % 24)) + f_X8_firstUnlockedHour v (nI j) (nI (t / 24 + k)) (nI 0)) := by
      rw [← nI_1, ← nI_add, ← eT, ← ep]
      rfl
    by_cases hb : (1000 : Int32) < nI k * (24 : Int32) - nI (t % 24)
    · have hb2 := Int32.lt_iff_toInt_lt.mp hb
      rw [ec, show (1000 : Int32).toInt = 1000 from rfl] at hb2
      rw [hstep, if_pos hb]
      exact Or.inl ⟨rfl, fun z hz2 => hz z (by omega)⟩
    · have hb2 : ¬ 1000 < (k : Int) * 24 - ((t % 24 : Nat) : Int) := fun g => hb (by rw [Int32.lt_iff_toInt_lt, ec]; exact g)
      rw [hstep, if_neg hb]
      by_cases hk0 : k = 0
      · subst hk0
        rw [if_pos (show nI 0 = 0 from rfl)]
        exact F (t % 24) p24 (by omega) (fun z hz2 => hz z (by omega)) _ rfl (by omega)
      · rw [if_neg (nI_ne0 (by omega) (by omega))]
        exact F 0 (by decide) (by omega) (fun z hz2 => hz z (by omega)) _ rfl (by omega)
theorem R_hoursUntilUnlockedByDays {B : Nat} {q : McV} {v sn : StV} {hi : HiV} {hs : Nat → StV} {tb nt : SbV} {d : MoV} (h : RW B q v sn hi hs tb nt d) (x : Int32) (hB : B < 2 ^ 26) : ok_X10_hoursUntilUnlockedByDays d x ∧ RC ["java/lang/IndexOutOfBoundsException", "java/util/NoSuchElementException"] (f_X9_hoursUntilUnlockedByDays q v x).1 (f_X9_hoursUntilUnlockedByDays q v x).2 (f_X10_hoursUntilUnlockedByDays d x).1 (f_X10_hoursUntilUnlockedByDays d x).2.2.2.2.2.2.1 ∧ RW B q v sn hi hs tb nt (f_X10_hoursUntilUnlockedByDays d x).2 := by
  obtain ⟨t, c, ht, hc, hc2, e1, e2, e3, e4, hD, hE, hP, hA⟩ := id h.1
  have hm : f_X10_hoursUntilUnlockedByDays d x = f_X10_hoursUntilUnlocked d x := rfl
  rw [hm]
  have K := g_door h x ["java/util/NoSuchElementException"] (if f_X8_lookDayByDay v x = -1 then (if f_X9_requireElement 0 = "" then ("", f_X8_lookDayByDay v x) else (f_X9_requireElement 0, 0)) else (if f_X9_requireElement 1 = "" then ("", f_X8_lookDayByDay v x) else (f_X9_requireElement 1, 0))) (lp_X10_hoursUntilUnlocked_25 d x (mo5 d 0) 1002 0) (okl_lp_X10_hoursUntilUnlocked_25 d x (mo5 d 0) 1002 0) (fun j hj e => by
    subst e
    obtain ⟨a1, a2⟩ := hbh (d := mo5 d 0) h.1 e1 e2 (by omega) hj d
    refine ⟨a1, ?_⟩
    have D := dbd_lp (d := mo5 d 0) h.1 e1 (by omega) hj 44 0 (by decide) (by decide) (fun z hz => by omega)
    rcases a2 with ⟨-, b2, b3⟩ | ⟨z, hz, -, b2, b3, b4⟩
    · rcases D with ⟨c1, -⟩ | ⟨z', z1, -, c2, -⟩
      · rw [show f_X8_lookDayByDay v (nI j) = -1 from c1, b2, if_pos rfl]
        exact ⟨RC.x2 (by decide), h.thr 2⟩
      · rw [b3 z' z1] at c2; exact absurd c2 (by decide)
    · rcases D with ⟨-, c2⟩ | ⟨z', z1, c1, c2, c3⟩
      · rw [c2 z hz] at b3; exact absurd b3 (by decide)
      · have ez : z' = z := by
          rcases Nat.lt_trichotomy z' z with g | g | g
          · rw [b4 z' g] at c2; exact absurd c2 (by decide)
          · exact g
          · rw [c3 z g] at b3; exact absurd b3 (by decide)
        subst ez
        rw [show f_X8_lookDayByDay v (nI j) = nI z' from c1, b2, if_neg (fun g => (q_neM (by omega)).mp g)]
        exact ⟨RC.ok rfl, h.thr 0⟩)
  exact ⟨⟨K.1, trivial⟩, K.2⟩
