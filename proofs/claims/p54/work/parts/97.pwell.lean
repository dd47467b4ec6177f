/-! ===== an object is well ===== -/
variable {dn : Nat}
theorem co_lp {v : StV} {nd i : Nat} (hn : nd ≤ 8) (h1 : v.2.2.1.1 = nI nd) (ps : Int32) : ∀ (n k : Nat), n + k = nd + 1 → k ≤ nd → lp_X8_countDoorsOfRing_4 v ps n (nI k) (sm (fun j => if f_X5_ringContains v.2.2.2.2.1 ps (f_X2_keyFor v.2.2.1 (nI j)) = 0 then 0 else 1) k) = sm (fun j => if f_X5_ringContains v.2.2.2.2.1 ps (f_X2_keyFor v.2.2.1 (nI j)) = 0 then 0 else 1) nd := by
  intro n
  induction n with
  | zero => intro k h h2; omega
  | succ n ih =>
    intro k h h2
    unfold lp_X8_countDoorsOfRing_4
    rw [h1]
    by_cases g : nd ≤ k
    · rw [if_pos (nI_le g (by omega)), show k = nd by omega]
    · rw [if_neg (nI_ge (by omega) (by omega)), nI_1]
      have K := ih (k + 1) (by omega) (by omega)
      rw [show sm (fun j => if f_X5_ringContains v.2.2.2.2.1 ps (f_X2_keyFor v.2.2.1 (nI j)) = 0 then (0 : Int32) else 1) (k + 1) = sm (fun j => if f_X5_ringContains v.2.2.2.2.1 ps (f_X2_keyFor v.2.2.1 (nI j)) = 0 then (0 : Int32) else 1) k + (if f_X5_ringContains v.2.2.2.2.1 ps (f_X2_keyFor v.2.2.1 (nI k)) = 0 then (0 : Int32) else 1) from rfl] at K
      by_cases c : f_X5_ringContains v.2.2.2.2.1 ps (f_X2_keyFor v.2.2.1 (nI k)) = 0
      · rw [if_pos c]
        rw [if_pos c, Int32.add_zero] at K
        exact K
      · rw [if_neg c]
        rw [if_neg c] at K
        exact K
theorem cn_lp {v : StV} {nd i : Nat} (hn : nd ≤ 8) (h1 : v.2.2.1.1 = nI nd) (ps : Int32) : ∀ (n k : Nat), n + k = nd + 1 → k ≤ nd → lp_X8_countOpenDoors_4 v ps n (nI k) (sm (fun j => if f_X8_resultFor v ps (nI j) = 0 then 1 else 0) k) = sm (fun j => if f_X8_resultFor v ps (nI j) = 0 then 1 else 0) nd := by
  intro n
  induction n with
  | zero => intro k h h2; omega
  | succ n ih =>
    intro k h h2
    unfold lp_X8_countOpenDoors_4
    rw [h1]
    by_cases g : nd ≤ k
    · rw [if_pos (nI_le g (by omega)), show k = nd by omega]
    · rw [if_neg (nI_ge (by omega) (by omega)), nI_1]
      have K := ih (k + 1) (by omega) (by omega)
      rw [show sm (fun j => if f_X8_resultFor v ps (nI j) = 0 then (1 : Int32) else 0) (k + 1) = sm (fun j => if f_X8_resultFor v ps (nI j) = 0 then (1 : Int32) else 0) k + (if f_X8_resultFor v ps (nI k) = 0 then (1 : Int32) else 0) from rfl] at K
      by_cases c : f_X8_resultFor v ps (nI k) = 0
      · rw [if_pos c]
        rw [if_pos c] at K
        exact K
      · rw [if_neg c]
        rw [if_neg c, Int32.add_zero] at K
        exact K
theorem co_sm {v : StV} {nd : Nat} (hn : nd ≤ 8) (h1 : v.2.2.1.1 = nI nd) (ps : Int32) : f_X8_countDoorsOfRing v ps = sm (fun j => if f_X5_ringContains v.2.2.2.2.1 ps (f_X2_keyFor v.2.2.1 (nI j)) = 0 then 0 else 1) nd := by
  unfold f_X8_countDoorsOfRing
  rw [h1, nI_toInt (by omega), show (0 : Int32).toInt = 0 from rfl, show ((nd : Int) - 0).toNat + 1 = nd + 1 by omega]
  exact co_lp (i := 0) hn h1 ps (nd + 1) 0 rfl (Nat.zero_le _)
theorem cn_sm {v : StV} {nd : Nat} (hn : nd ≤ 8) (h1 : v.2.2.1.1 = nI nd) (ps : Int32) : f_X8_countOpenDoors v ps = sm (fun j => if f_X8_resultFor v ps (nI j) = 0 then 1 else 0) nd := by
  unfold f_X8_countOpenDoors
  rw [h1, nI_toInt (by omega), show (0 : Int32).toInt = 0 from rfl, show ((nd : Int) - 0).toNat + 1 = nd + 1 by omega]
  exact cn_lp (i := 0) hn h1 ps (nd + 1) 0 rfl (Nat.zero_le _)
/-! who enters: with the key, where it is unlocked -/
theorem unl_now (v : StV) (dr : Int32) : f_X8_isUnlockedAt v dr v.1 = if f_X1_effectAt v.2.2.2.1 (f_X1_positionOf v.2.2.2.1 dr (f_X8_today v)) = 0 then (if f_X2_containsPhase v.2.2.1 dr (f_X8_phaseFor v (f_X8_today v)) = 0 then 0 else if f_X2_containsHour v.2.2.1 dr (f_X8_hourNow v) = 0 then 0 else 1) else if f_X1_effectAt v.2.2.2.1 (f_X1_positionOf v.2.2.2.1 dr (f_X8_today v)) = 1 then 1 else 0 := rfl
theorem res_now (v : StV) (ps dr : Int32) : f_X8_resultFor v ps dr = if f_X1_effectAt v.2.2.2.1 (f_X1_positionOf v.2.2.2.1 dr (f_X8_today v)) = 2 then 1 else if f_X5_ringContains v.2.2.2.2.1 ps (f_X2_keyFor v.2.2.1 dr) = 0 then 2 else if f_X1_effectAt v.2.2.2.1 (f_X1_positionOf v.2.2.2.1 dr (f_X8_today v)) = 1 then 0 else if f_X2_containsPhase v.2.2.1 dr (f_X8_phaseFor v (f_X8_today v)) = 0 then 3 else if f_X2_containsHour v.2.2.1 dr (f_X8_hourNow v) = 0 then 4 else 0 := rfl
theorem unl_01 (v : StV) (dr : Int32) : f_X8_isUnlockedAt v dr v.1 = 0 ∨ f_X8_isUnlockedAt v dr v.1 = 1 := by
  rw [unl_now]
  repeat' split
  all_goals first | exact Or.inl rfl | exact Or.inr rfl
/-- three cases: without the key; with it and shut; with it and open -/
theorem wu {v : StV} {ps dr : Int32} (he : f_X1_effectAt v.2.2.2.1 (f_X1_positionOf v.2.2.2.1 dr (f_X8_today v)) = 0 ∨ f_X1_effectAt v.2.2.2.1 (f_X1_positionOf v.2.2.2.1 dr (f_X8_today v)) = 1 ∨ f_X1_effectAt v.2.2.2.1 (f_X1_positionOf v.2.2.2.1 dr (f_X8_today v)) = 2) :
    (f_X5_ringContains v.2.2.2.2.1 ps (f_X2_keyFor v.2.2.1 dr) = 0 ∧ ¬ f_X8_resultFor v ps dr = 0) ∨ (¬ f_X5_ringContains v.2.2.2.2.1 ps (f_X2_keyFor v.2.2.1 dr) = 0 ∧ f_X8_isUnlockedAt v dr v.1 = 0 ∧ ¬ f_X8_resultFor v ps dr = 0) ∨ (¬ f_X5_ringContains v.2.2.2.2.1 ps (f_X2_keyFor v.2.2.1 dr) = 0 ∧ f_X8_isUnlockedAt v dr v.1 = 1 ∧ f_X8_resultFor v ps dr = 0) := by
  rw [unl_now, res_now]
  by_cases k : f_X5_ringContains v.2.2.2.2.1 ps (f_X2_keyFor v.2.2.1 dr) = 0
  · refine Or.inl ⟨k, ?_⟩
    rw [if_pos k]
    split <;> decide
  · right
    rw [if_neg k]
    rcases he with e | e | e <;> rw [e]
    · rw [if_pos rfl, if_neg (show ¬ (0 : Int32) = 2 by decide), if_neg (show ¬ (0 : Int32) = 1 by decide)]
      by_cases p : f_X2_containsPhase v.2.2.1 dr (f_X8_phaseFor v (f_X8_today v)) = 0
      · rw [if_pos p, if_pos p]; exact Or.inl ⟨k, rfl, by decide⟩
      · rw [if_neg p, if_neg p]
        by_cases h : f_X2_containsHour v.2.2.1 dr (f_X8_hourNow v) = 0
        · rw [if_pos h, if_pos h]; exact Or.inl ⟨k, rfl, by decide⟩
        · rw [if_neg h, if_neg h]; exact Or.inr ⟨k, rfl, rfl⟩
    · rw [if_neg (show ¬ (1 : Int32) = 0 by decide), if_pos rfl, if_neg (show ¬ (1 : Int32) = 2 by decide), if_pos rfl]
      exact Or.inr ⟨k, rfl, rfl⟩
    · rw [if_neg (show ¬ (2 : Int32) = 0 by decide), if_neg (show ¬ (2 : Int32) = 1 by decide), if_pos rfl]
      exact Or.inl ⟨k, rfl, by decide⟩
theorem V_would {q : McV} {v : StV} {np nd i j : Nat} (hp : np ≤ 6) (p1 : v.2.2.2.2.1.1 = nI np) (hi : i < np) (hd : nd ≤ 8) (d1 : v.2.2.1.1 = nI nd) (hj : j < nd) : f_X9_wouldEnter q v (nI i) (nI j) = ("", f_X8_resultFor v (nI i) (nI j)) := by
  have e : f_X8_faultOfAttempt v (nI i) (nI j) = 0 := by
    unfold f_X8_faultOfAttempt
    rw [ps_1 p1 hp hi, dr_1 d1 hd hj, if_neg (by decide), if_neg (by decide)]
  unfold f_X9_wouldEnter
  rw [e]; rfl
theorem we_52 {q : McV} {v : StV} {np nd i : Nat} (hp : np ≤ 6) (p1 : v.2.2.2.2.1.1 = nI np) (hi : i < np) (hd : nd ≤ 8) (d1 : v.2.2.1.1 = nI nd) (he : ∀ j, j < nd → f_X1_effectAt v.2.2.2.1 (f_X1_positionOf v.2.2.2.1 (nI j) (f_X8_today v)) = 0 ∨ f_X1_effectAt v.2.2.2.1 (f_X1_positionOf v.2.2.2.1 (nI j) (f_X8_today v)) = 1 ∨ f_X1_effectAt v.2.2.2.1 (f_X1_positionOf v.2.2.2.1 (nI j) (f_X8_today v)) = 2) (r : Int32 × Int32) (x1 y : Int32) : ∀ (n k : Nat), n + k = 9 → k ≤ nd →
    okl_lp_L_isWell_52 q v r (nI i) x1 y n (nI k) (sm (fun j => if f_X8_resultFor v (nI i) (nI j) = 0 then 1 else 0) k) (sm (fun j => if f_X5_ringContains v.2.2.2.2.1 (nI i) (f_X2_keyFor v.2.2.1 (nI j)) = 0 then 0 else 1) k) ∧
    lp_L_isWell_52 q v r (nI i) x1 y n (nI k) (sm (fun j => if f_X8_resultFor v (nI i) (nI j) = 0 then 1 else 0) k) (sm (fun j => if f_X5_ringContains v.2.2.2.2.1 (nI i) (f_X2_keyFor v.2.2.1 (nI j)) = 0 then 0 else 1) k) = (nI nd, sm (fun j => if f_X8_resultFor v (nI i) (nI j) = 0 then 1 else 0) nd, sm (fun j => if f_X5_ringContains v.2.2.2.2.1 (nI i) (f_X2_keyFor v.2.2.1 (nI j)) = 0 then 0 else 1) nd) := by
  intro n
  induction n with
  | zero => intro k h h2; omega
  | succ n ih =>
    intro k h h2
    have ed : f_X9_doorCount q v = nI nd := d1
    unfold okl_lp_L_isWell_52 lp_L_isWell_52
    rw [ed]
    by_cases g : nd ≤ k
    · rw [if_pos (nI_le g (by omega)), if_pos (nI_le g (by omega)), show k = nd by omega]
      exact ⟨trivial, rfl⟩
    · have hk : k < nd := by omega
      have ew : f_L_wouldEnter q v (nI i) (nI k) = f_X8_resultFor v (nI i) (nI k) := by
        unfold f_L_wouldEnter
        rw [V_would hp p1 hi hd d1 hk]; rfl
      have ow : ok_L_wouldEnter q v (nI i) (nI k) := by
        unfold ok_L_wouldEnter
        rw [V_would hp p1 hi hd d1 hk, if_pos rfl]; trivial
      obtain ⟨w, hw, er⟩ := rs_5 v (nI i) (nI k)
      have n0 : ¬ nI w < 0 := nI_pos (by omega)
      have n4 : nI w ≤ (4 : Int32) := nI_le (b := 4) (by omega) (by decide)
      obtain ⟨K1, K2⟩ := ih (k + 1) (by omega) (by omega)
      rw [show sm (fun j => if f_X8_resultFor v (nI i) (nI j) = 0 then (1 : Int32) else 0) (k + 1) = sm (fun j => if f_X8_resultFor v (nI i) (nI j) = 0 then (1 : Int32) else 0) k + (if f_X8_resultFor v (nI i) (nI k) = 0 then (1 : Int32) else 0) from rfl, show sm (fun j => if f_X5_ringContains v.2.2.2.2.1 (nI i) (f_X2_keyFor v.2.2.1 (nI j)) = 0 then (0 : Int32) else 1) (k + 1) = sm (fun j => if f_X5_ringContains v.2.2.2.2.1 (nI i) (f_X2_keyFor v.2.2.1 (nI j)) = 0 then (0 : Int32) else 1) k + (if f_X5_ringContains v.2.2.2.2.1 (nI i) (f_X2_keyFor v.2.2.1 (nI k)) = 0 then (0 : Int32) else 1) from rfl] at K1 K2
      generalize sm (fun j => if f_X8_resultFor v (nI i) (nI j) = 0 then (1 : Int32) else 0) k = S1 at K1 K2 ⊢
      generalize sm (fun j => if f_X5_ringContains v.2.2.2.2.1 (nI i) (f_X2_keyFor v.2.2.1 (nI j)) = 0 then (0 : Int32) else 1) k = S2 at K1 K2 ⊢
      rw [if_neg (nI_ge hk (by omega)), if_neg (nI_ge hk (by omega)), ew, V_keyOf d1 hd hk, V_hasKey p1 hp hi, V_isUnlocked d1 hd hk, nI_1]
      rcases wu (ps := nI i) (he k hk) with ⟨a1, a2⟩ | ⟨a1, a2, a3⟩ | ⟨a1, a2, a3⟩
      · rw [if_neg a2, if_pos a1] at K1 K2
        simp only [a1, a2, if_true, if_false, er, n0, n4, eq_self]
        rw [er] at a2
        refine ⟨⟨ow, fun u hu => ?_⟩, ?_⟩
        · subst hu
          refine ⟨trivial, trivial, ?_⟩
          rw [if_neg a2]
          refine ⟨trivial, ?_⟩
          split
          · exact K1
          · refine ⟨trivial, trivial, ?_⟩
            exact K1
        · rw [if_neg a2]
          simp only [ite_self]
          exact K2
      · rw [if_neg a3, if_neg a1] at K1 K2
        rw [er] at a3
        simp only [a1, a2, if_true, if_false, er, n0, n4, eq_self, a3]
        refine ⟨⟨ow, fun u hu => ?_⟩, K2⟩
        subst hu
        refine ⟨trivial, trivial, ?_⟩
        rw [if_neg a3]
        refine ⟨trivial, ?_⟩
        rw [if_neg n0, if_pos n4]; exact K1
      · rw [if_pos a3, if_neg a1] at K1 K2
        have z0 : ¬ ((0 : Int32) < 0) := by decide
        have z4 : (0 : Int32) ≤ 4 := by decide
        simp only [a1, a2, a3, if_true, if_false, eq_self, z0, z4, show ¬ ((1 : Int32) = 0) by decide]
        refine ⟨⟨ow, fun u hu => ?_⟩, K2⟩
        subst hu
        refine ⟨trivial, trivial, ?_⟩
        rw [if_pos rfl]
        refine ⟨trivial, trivial, trivial, ?_⟩
        exact K1
theorem we_27 {q : McV} {v : StV} {np nd : Nat} (hp : np ≤ 6) (p1 : v.2.2.2.2.1.1 = nI np) (hd : nd ≤ 8) (d1 : v.2.2.1.1 = nI nd) (he : ∀ j, j < nd → f_X1_effectAt v.2.2.2.1 (f_X1_positionOf v.2.2.2.1 (nI j) (f_X8_today v)) = 0 ∨ f_X1_effectAt v.2.2.2.1 (f_X1_positionOf v.2.2.2.1 (nI j) (f_X8_today v)) = 1 ∨ f_X1_effectAt v.2.2.2.1 (f_X1_positionOf v.2.2.2.1 (nI j) (f_X8_today v)) = 2) (r : Int32 × Int32) : ∀ (n k : Nat), n + k = 7 → k ≤ np →
    okl_lp_L_isWell_27 q v r n (nI k) (sm v.2.2.2.2.1.2.2 k) ∧ lp_L_isWell_27 q v r n (nI k) (sm v.2.2.2.2.1.2.2 k) = (nI np, sm v.2.2.2.2.1.2.2 np) := by
  intro n
  induction n with
  | zero => intro k h h2; omega
  | succ n ih =>
    intro k h h2
    have ed : f_X9_personCount q v = nI np := p1
    unfold okl_lp_L_isWell_27 lp_L_isWell_27
    rw [ed]
    by_cases g : np ≤ k
    · rw [if_pos (nI_le g (by omega)), if_pos (nI_le g (by omega)), show k = np by omega]
      exact ⟨trivial, rfl⟩
    · have hk : k < np := by omega
      obtain ⟨K1, K2⟩ := ih (k + 1) (by omega) (by omega)
      rw [show sm v.2.2.2.2.1.2.2 (k + 1) = sm v.2.2.2.2.1.2.2 k + v.2.2.2.2.1.2.2 k from rfl] at K1 K2
      have L := fun x1 y => we_52 (q := q) hp p1 hk hd d1 he r x1 y 9 0 rfl (Nat.zero_le _)
      rw [if_neg (nI_ge hk (by omega)), if_neg (nI_ge hk (by omega)), V_entriesOf p1 hp hk, V_doorsOfRing p1 hp hk, V_openDoorsFor p1 hp hk, co_sm hd d1, cn_sm hd d1, nI_1]
      refine ⟨⟨rfl, fun y hy => ⟨(L _ _).1, fun r2 hr2 => ⟨rfl, ?_⟩⟩⟩, ?_⟩
      · rw [hr2, show lp_L_isWell_52 q v r (nI k) (sm v.2.2.2.2.1.2.2 k) y 9 0 0 0 = _ from (L _ _).2, if_pos rfl, if_pos rfl, hy]
        exact ⟨rfl, K1⟩
      · dsimp only
        rw [show lp_L_isWell_52 q v r (nI k) (sm v.2.2.2.2.1.2.2 k) (sm v.2.2.2.2.1.2.2 k + v.2.2.2.2.1.2.2 k) 9 0 0 0 = _ from (L _ _).2, if_pos rfl, if_pos rfl]
        exact K2
theorem we_6 {q : McV} {v : StV} : ∀ (n k : Nat), n + k = 6 → k ≤ 5 → okl_lp_L_isWell_6 q v n (nI k) (sm v.2.2.2.2.2.2.2.2.1 k) ∧ lp_L_isWell_6 q v n (nI k) (sm v.2.2.2.2.2.2.2.2.1 k) = (nI 5, sm v.2.2.2.2.2.2.2.2.1 5) := by
  intro n
  induction n with
  | zero => intro k h h2; omega
  | succ n ih =>
    intro k h h2
    unfold okl_lp_L_isWell_6 lp_L_isWell_6
    rw [show (5 : Int32) = nI 5 from rfl]
    by_cases g : 5 ≤ k
    · rw [if_pos (nI_le g (by omega)), if_pos (nI_le g (by omega)), show k = 5 by omega]
      exact ⟨trivial, rfl⟩
    · obtain ⟨K1, K2⟩ := ih (k + 1) (by omega) (by omega)
      rw [if_neg (nI_ge (by omega) (by decide)), if_neg (nI_ge (by omega) (by decide)), V_attemptsWith (by omega), nI_1]
      exact ⟨⟨rfl, fun y hy => by subst hy; exact K1⟩, K2⟩
/-! the hours of a door -/
def hrF (b c : Nat) (x : Nat) : Int32 := if nI c < nI b then (if nI b ≤ nI x then 1 else if nI c < nI x then 0 else 1) else if nI x < nI b then 0 else if nI c < nI x then 0 else 1
theorem hr_cnt : ∀ b, b < 24 → ∀ c, c < 24 → sm (hrF b c) 24 = f_J9_floorMod_7cf53 (nI c - nI b) 24 + 1 ∧ ¬ (f_J9_floorMod_7cf53 (nI c - nI b) 24 + 1 < 1) := by decide +kernel
theorem hr_val {w : DoV} {j b c x : Nat} (hj : j < 8) (hb : w.2.2.1 j = nI b) (hc : w.2.2.2.1 j = nI c) : f_X2_containsHour w (nI j) (nI x) = hrF b c x := by
  unfold f_X2_containsHour hrF
  rw [n_at _ hj (by decide), n_at _ hj (by decide), hb, hc]
theorem hr_01 (b c x : Nat) : hrF b c x = 0 ∨ hrF b c x = 1 := by
  unfold hrF
  repeat' split
  all_goals first | exact Or.inl rfl | exact Or.inr rfl
theorem we_213 {q : McV} {v : StV} {nd j b c : Nat} (hd : nd ≤ 8) (d1 : v.2.2.1.1 = nI nd) (hj : j < nd) (hb : v.2.2.1.2.2.1 j = nI b) (hc : v.2.2.1.2.2.2.1 j = nI c) (r r2 : Int32 × Int32) : ∀ (n k : Nat), n + k = 25 → k ≤ 24 → okl_lp_L_isWell_213 q v r r2 (nI j) n (nI k) (sm (hrF b c) k) ∧ lp_L_isWell_213 q v r r2 (nI j) n (nI k) (sm (hrF b c) k) = (nI 24, sm (hrF b c) 24) := by
  intro n
  induction n with
  | zero => intro k h h2; omega
  | succ n ih =>
    intro k h h2
    unfold okl_lp_L_isWell_213 lp_L_isWell_213
    rw [show (24 : Int32) = nI 24 from rfl]
    by_cases g : 24 ≤ k
    · rw [if_pos (nI_le g (by omega)), if_pos (nI_le g (by omega)), show k = 24 by omega]
      exact ⟨trivial, rfl⟩
    · obtain ⟨K1, K2⟩ := ih (k + 1) (by omega) (by omega)
      rw [show sm (hrF b c) (k + 1) = sm (hrF b c) k + hrF b c k from rfl] at K1 K2
      rw [if_neg (nI_ge (by omega) (by decide)), if_neg (nI_ge (by omega) (by decide)), V_isHourOf d1 hd hj (by omega), hr_val (by omega) hb hc, nI_1]
      rcases hr_01 b c k with e | e <;> rw [e] at K1 K2 ⊢
      · rw [if_pos rfl, if_pos rfl]; exact ⟨⟨rfl, K1⟩, K2⟩
      · rw [if_neg (by decide), if_neg (by decide)]; exact ⟨⟨rfl, K1⟩, K2⟩
/-! when it will be unlocked: by both ways -/
theorem look_eq {B : Nat} {v : StV} {d : MoV} (h : RS B v d.1) (hB : B < 240000) {j : Nat} (hj : j < 8) : f_X8_lookHourByHour v (nI j) = f_X8_lookDayByDay v (nI j) ∧ (f_X8_lookHourByHour v (nI j) = 0 ↔ f_X8_isUnlockedAt v (nI j) v.1 = 1) := by
  obtain ⟨t, c, ht, hc, hc2, e1, e2, e3, e4, hD, hE, hP, hA⟩ := id h
  have hu := c_unl h hj (tm := t) (by omega)
  have H := (hbh h e1 e2 (by omega) hj d).2
  have W := dbd_lp h e1 (by omega) hj 44 0 (by omega) (by omega) (fun z hz => by omega)
  have W : (f_X8_lookDayByDay v (nI j) = -1 ∧ ∀ z, z ≤ 1000 → f_X10_unlocked d (nI j) (nI (t + z)) = 0) ∨ ∃ z, z ≤ 1000 ∧ f_X8_lookDayByDay v (nI j) = nI z ∧ f_X10_unlocked d (nI j) (nI (t + z)) = 1 ∧ ∀ y, y < z → f_X10_unlocked d (nI j) (nI (t + y)) = 0 := W
  rw [e1, hu.1]
  rcases H with ⟨a1, -, a2⟩ | ⟨z, z1, a1, -, a2, a3⟩
  · rcases W with ⟨b1, b2⟩ | ⟨y, y1, b1, b2, b3⟩
    · rw [a1, b1]
      refine ⟨rfl, fun g => absurd g (by decide), fun g => ?_⟩
      have := a2 0 (by omega)
      rw [Nat.add_zero, g] at this
      exact absurd this (by decide)
    · have := a2 y y1
      rw [b2] at this
      exact absurd this (by decide)
  · rcases W with ⟨b1, b2⟩ | ⟨y, y1, b1, b2, b3⟩
    · have := b2 z z1
      rw [a2] at this
      exact absurd this (by decide)
    · have ez : z = y := by
        rcases Nat.lt_trichotomy z y with g | g | g
        · have := b3 z g
          rw [a2] at this
          exact absurd this (by decide)
        · exact g
        · have := a3 y g
          rw [b2] at this
          exact absurd this (by decide)
      subst ez
      rw [a1, b1]
      refine ⟨rfl, fun g => ?_, fun g => ?_⟩
      · have z0 : z = 0 := (nI_eq (b := 0) (by omega) (by decide)).mp g
        subst z0
        exact a2
      · by_cases z0 : z = 0
        · subst z0; rfl
        · have := a3 0 (by omega)
          rw [Nat.add_zero, g] at this
          exact absurd this (by decide)
theorem V_until {q : McV} {v : StV} {nd j : Nat} (hd : nd ≤ 8) (d1 : v.2.2.1.1 = nI nd) (hj : j < nd) : ok_L_hoursUntilUnlocked q v (nI j) ∧ f_L_hoursUntilUnlocked q v (nI j) = if f_X8_lookHourByHour v (nI j) = -1 then -900002 else f_X8_lookHourByHour v (nI j) := by
  have e : f_X9_hoursUntilUnlocked q v (nI j) = if f_X8_lookHourByHour v (nI j) = -1 then ("java/util/NoSuchElementException", 0) else ("", f_X8_lookHourByHour v (nI j)) := by
    unfold f_X9_hoursUntilUnlocked
    rw [dr_ok d1 hd hj]
    generalize f_X8_lookHourByHour v (nI j) = z
    rfl
  unfold ok_L_hoursUntilUnlocked f_L_hoursUntilUnlocked
  rw [e]
  by_cases g : f_X8_lookHourByHour v (nI j) = -1
  · rw [if_pos g, if_pos g, if_neg (show ¬ "java/util/NoSuchElementException" = "" by decide), if_neg (show ¬ "java/util/NoSuchElementException" = "java/lang/IndexOutOfBoundsException" by decide), if_pos rfl]
    rw [if_neg (show ¬ "java/util/NoSuchElementException" = "" by decide), if_neg (show ¬ "java/util/NoSuchElementException" = "java/lang/IndexOutOfBoundsException" by decide), if_pos rfl]
    exact ⟨trivial, rfl⟩
  · rw [if_neg g, if_neg g]
    generalize f_X8_lookHourByHour v (nI j) = z
    exact ⟨(if_pos rfl).mpr trivial, if_pos rfl⟩
theorem V_untilD {q : McV} {v : StV} {nd j : Nat} (hd : nd ≤ 8) (d1 : v.2.2.1.1 = nI nd) (hj : j < nd) : ok_L_hoursUntilUnlockedByDays q v (nI j) ∧ f_L_hoursUntilUnlockedByDays q v (nI j) = if f_X8_lookDayByDay v (nI j) = -1 then -900002 else f_X8_lookDayByDay v (nI j) := by
  have e : f_X9_hoursUntilUnlockedByDays q v (nI j) = if f_X8_lookDayByDay v (nI j) = -1 then ("java/util/NoSuchElementException", 0) else ("", f_X8_lookDayByDay v (nI j)) := by
    unfold f_X9_hoursUntilUnlockedByDays
    rw [dr_ok d1 hd hj]
    generalize f_X8_lookDayByDay v (nI j) = z
    rfl
  unfold ok_L_hoursUntilUnlockedByDays f_L_hoursUntilUnlockedByDays
  rw [e]
  by_cases g : f_X8_lookDayByDay v (nI j) = -1
  · rw [if_pos g, if_pos g, if_neg (show ¬ "java/util/NoSuchElementException" = "" by decide), if_neg (show ¬ "java/util/NoSuchElementException" = "java/lang/IndexOutOfBoundsException" by decide), if_pos rfl]
    rw [if_neg (show ¬ "java/util/NoSuchElementException" = "" by decide), if_neg (show ¬ "java/util/NoSuchElementException" = "java/lang/IndexOutOfBoundsException" by decide), if_pos rfl]
    exact ⟨trivial, rfl⟩
  · rw [if_neg g, if_neg g]
    exact ⟨(if_pos rfl).mpr trivial, if_pos rfl⟩
/-- without an exception it is the rule that decides -/
theorem no_exc {v : StV} {dr : Int32} (h : f_X1_positionOf v.2.2.2.1 dr (f_X8_today v) = -1) : f_X8_isUnlockedAt v dr v.1 = if f_X2_containsPhase v.2.2.1 dr (f_X8_phaseFor v (f_X8_today v)) = 0 then 0 else if f_X2_containsHour v.2.2.1 dr (f_X8_hourNow v) = 0 then 0 else 1 := by
  rw [unl_now, h]
  have e : f_X1_effectAt v.2.2.2.1 (-1) = 0 := by
    unfold f_X1_effectAt f_X1_holds
    rw [if_pos (show (-1 : Int32) < 0 by decide), if_pos rfl]
  rw [e, if_pos rfl]
theorem ph_def (w : DoV) (j p : Int32) : f_X2_containsPhase w j p = if ((f_X2_phaseSetFor w j >>> (p &&& 31)) &&& 1) = 1 then 1 else 0 := rfl
theorem we_199 {B : Nat} {q : McV} {v : StV} {d : MoV} (h : RS B v d.1) (hB : B < 240000) {nd : Nat} (hd : nd ≤ 8) (d1 : v.2.2.1.1 = nI nd) (r r2 : Int32 × Int32) : ∀ (n k : Nat), n + k = 9 → k ≤ nd → okl_lp_L_isWell_199 q v r r2 n (nI k) := by
  intro n
  induction n with
  | zero => intro k h h2; omega
  | succ n ih =>
    intro k hk hk2
    have ed : f_X9_doorCount q v = nI nd := d1
    unfold okl_lp_L_isWell_199
    rw [ed]
    by_cases g : nd ≤ k
    · rw [if_pos (nI_le g (by omega))]; trivial
    · have hj : k < nd := by omega
      obtain ⟨t, c, ht, hc, hc2, e1, e2, e3, e4, hD, hE, hP, hA⟩ := id h
      obtain ⟨nd', n1, n2, n3, n4⟩ := hD
      obtain ⟨a, b, c', e, ha, hb, hc', he, v1, v2, v3, v4, -⟩ := n4 k (by omega)
      have K := ih (k + 1) (by omega) (by omega)
      rw [← nI_1] at K
      have L := we_213 (q := q) hd d1 hj v2 v3 r r2 25 0 rfl (Nat.zero_le _)
      obtain ⟨u1, u2⟩ := V_until (q := q) hd d1 hj
      obtain ⟨w1, w2⟩ := V_untilD (q := q) hd d1 hj
      obtain ⟨l1, l2⟩ := look_eq h hB (show k < 8 by omega)
      have td0 : f_X8_today v = nI (t / 24) := c_today e1 (by omega)
      have hr0 : f_X8_hourNow v = nI (t % 24) := c_hour e1 (by omega)
      have td : f_X9_day q v = nI (t / 24) := td0
      have hr : f_X9_hour q v = nI (t % 24) := hr0
      obtain ⟨H1, H2⟩ := hr_cnt b hb c' hc'
      rw [← H1] at H2
      have ch : f_X2_countHours v.2.2.1 (nI k) = sm (hrF b c') 24 := by
        rw [H1]
        unfold f_X2_countHours
        rw [n_at _ (by omega) (by decide), n_at _ (by omega) (by decide), v2, v3]
      rw [if_neg (nI_ge hj (by omega))]
      refine ⟨L.1, fun r3 hr3 => ⟨u1, fun x hx => ?_⟩⟩
      have y1 : r3.2 = sm (hrF b c') 24 := by rw [hr3]; exact congrArg Prod.snd L.2
      have xd : x = f_L_hoursUntilUnlockedByDays q v (nI k) := by rw [hx, u2, w2, ← l1]
      have x0 : x = 0 ↔ f_X8_isUnlockedAt v (nI k) v.1 = 1 := by
        rw [hx, u2, ← l2]
        by_cases m : f_X8_lookHourByHour v (nI k) = -1
        · rw [if_pos m, m]
          exact ⟨fun z => absurd z (by decide), fun z => absurd z (by decide)⟩
        · rw [if_neg m]
      have F : f_X1_positionOf v.2.2.2.1 (nI k) (f_X8_today v) = -1 → _ := no_exc
      rw [td0, hr0, ph_def] at F
      rw [td, hr, y1, V_phasesOf d1 hd hj, V_phaseOn (by omega), V_hourCount d1 hd hj, ch, V_isUnlocked d1 hd hj, V_hasException d1 hd hj, V_isHourOf d1 hd hj (by omega)]
      dsimp only
      refine ⟨rfl, rfl, ?_⟩
      by_cases C : ((f_X2_phaseSetFor v.2.2.1 (nI k) >>> (f_X8_phaseFor v (nI (t / 24)) &&& 31)) &&& 1) = 1
      · rw [if_pos C, if_neg (show ¬ (1 : Int32) = 0 by decide)] at F
        rw [if_pos C]
        refine ⟨rfl, ?_⟩
        rw [if_pos rfl, if_neg H2]
        refine ⟨w1, fun y hy => ?_⟩
        rw [if_pos (xd.trans hy.symm)]
        rcases unl_01 v (nI k) with U | U
        · have nx : ¬ x = 0 := fun g => by
            have := x0.mp g
            rw [U] at this
            exact absurd this (by decide)
          rw [if_neg nx]
          rw [U] at F
          rw [U]
          refine ⟨rfl, ?_⟩
          rw [if_pos rfl]
          refine ⟨rfl, ?_⟩
          by_cases p : f_X1_positionOf v.2.2.2.1 (nI k) (nI (t / 24)) = -1
          · have F := F p
            rw [if_pos p, if_pos rfl]
            refine ⟨rfl, rfl, ?_⟩
            by_cases hh : f_X2_containsHour v.2.2.1 (nI k) (nI (t % 24)) = 0
            · rw [if_pos hh, if_pos rfl]; exact K
            · rw [if_neg hh] at F; exact absurd F (by decide)
          · rw [if_neg p, if_neg (show ¬ (1 : Int32) = 0 by decide)]; exact K
        · rw [if_pos (x0.mpr U)]
          rw [U] at F
          rw [U]
          refine ⟨rfl, ?_⟩
          rw [if_pos rfl]
          refine ⟨rfl, ?_⟩
          by_cases p : f_X1_positionOf v.2.2.2.1 (nI k) (nI (t / 24)) = -1
          · have F := F p
            rw [if_pos p, if_pos rfl]
            refine ⟨rfl, rfl, ?_⟩
            by_cases hh : f_X2_containsHour v.2.2.1 (nI k) (nI (t % 24)) = 0
            · rw [if_pos hh] at F; exact absurd F (by decide)
            · rw [if_neg hh, if_pos rfl]; exact K
          · rw [if_neg p, if_neg (show ¬ (1 : Int32) = 0 by decide)]; exact K
      · rw [if_neg C, if_pos rfl] at F
        rw [if_neg C]
        refine ⟨rfl, ?_⟩
        rw [if_pos rfl, if_neg H2]
        refine ⟨w1, fun y hy => ?_⟩
        rw [if_pos (xd.trans hy.symm)]
        rcases unl_01 v (nI k) with U | U
        · have nx : ¬ x = 0 := fun g => by
            have := x0.mp g
            rw [U] at this
            exact absurd this (by decide)
          rw [if_neg nx]
          rw [U]
          refine ⟨rfl, ?_⟩
          rw [if_pos rfl]
          refine ⟨rfl, ?_⟩
          by_cases p : f_X1_positionOf v.2.2.2.1 (nI k) (nI (t / 24)) = -1
          · rw [if_pos p, if_pos rfl]
            refine ⟨rfl, ?_⟩
            rw [if_pos rfl]; exact K
          · rw [if_neg p, if_neg (show ¬ (1 : Int32) = 0 by decide)]; exact K
        · rw [if_pos (x0.mpr U)]
          rw [U] at F
          rw [U]
          refine ⟨rfl, ?_⟩
          rw [if_pos rfl]
          refine ⟨rfl, ?_⟩
          by_cases p : f_X1_positionOf v.2.2.2.1 (nI k) (nI (t / 24)) = -1
          · exact absurd (F p) (by decide)
          · rw [if_neg p, if_neg (show ¬ (1 : Int32) = 0 by decide)]; exact K
theorem we_376 {q : McV} {v : StV} (hJ : JX dn v.2.2.1.1 v.2.2.2.1) (r r2 : Int32 × Int32) (r3 : Int32) : ∀ (n k : Nat), n + k = 13 → okl_lp_L_isWell_376 q v r r2 r3 n (nI (k + 1)) ∨ n = 0 := by
  obtain ⟨ne, nd, Z, hn, hd, -, d1, x1, z1, z2⟩ := hJ
  intro n
  induction n with
  | zero => intro k h; exact Or.inr rfl
  | succ n ih =>
    intro k hk
    left
    have ec : f_X9_exceptionCount q v = nI ne := x1
    unfold okl_lp_L_isWell_376
    rw [ec]
    by_cases g : ne ≤ k + 1
    · rw [if_pos (nI_le g (by omega))]; trivial
    · have K : okl_lp_L_isWell_376 q v r r2 r3 n (nI (k + 1) + 1) := by
        rw [nI_1]
        exact (ih (k + 1) (by omega)).resolve_right (by omega)
      obtain ⟨p1, p2, p3, p4⟩ := z1 k (by omega)
      obtain ⟨s1, s2, s3, s4⟩ := z1 (k + 1) (by omega)
      have lt := z2 k (k + 1) (by omega) (by omega)
      have sub : nI (Z (k + 1) / 8) - nI (Z k / 8) = nI (Z (k + 1) / 8 - Z k / 8) := by
        rw [show nI (Z (k + 1) / 8) = nI (Z (k + 1) / 8 - Z k / 8) + nI (Z k / 8) by rw [nI_add, Nat.sub_add_cancel (by omega)], Int32.add_sub_cancel]
      have hp : ¬ f_X1_positionOf v.2.2.2.1 (nI (Z (k + 1) % 8)) (nI (Z (k + 1) / 8)) = -1 := by
        rcases po_spec hn x1 (nI (Z (k + 1) % 8)) (nI (Z (k + 1) / 8)) with ⟨-, m⟩ | ⟨j, j1, j2, -⟩
        · exact absurd ⟨s1, s2⟩ (m (k + 1) (by omega))
        · rw [j2]
          intro m
          exact absurd (show nI j < 0 by rw [m]; decide) (nI_pos (by omega))
      have hx : f_X9_hasException q v (nI (Z (k + 1) % 8)) (nI (Z (k + 1) / 8)) = ("", 1) := by
        rw [V_hasException d1 hd s4, if_neg hp]
      rw [if_neg (nI_ge (by omega) (by omega)), nI_pred, V_exceptionDay x1 hn (by omega), V_exceptionDay x1 hn (by omega), V_exceptionDoor x1 hn (by omega), V_exceptionDoor x1 hn (by omega), p1, p2, s1, s2]
      dsimp only
      rw [hx, sub]
      refine ⟨rfl, rfl, fun y hy => ?_⟩
      rw [hy, if_neg (nI_pos (by omega))]
      by_cases z : nI (Z (k + 1) / 8 - Z k / 8) = 0
      · rw [if_pos z]
        have := (nI_eq (b := 0) (by omega) (by decide)).mp z
        refine ⟨rfl, rfl, ?_⟩
        rw [if_neg (nI_ge (by omega) (by omega))]
        refine ⟨rfl, rfl, rfl, ?_⟩
        rw [if_neg (show ¬ (1 : Int32) = 0 by decide)]
        exact K
      · rw [if_neg z]
        refine ⟨rfl, rfl, rfl, ?_⟩
        rw [if_neg (show ¬ (1 : Int32) = 0 by decide)]
        exact K
/-! a number is equal to itself -/
theorem de_n {x : UInt64} (h : vf_n64 x) : FP.Core.decode FP.Core.b64 x.toNat ≠ .nan := by
  unfold vf_n64 at h
  have e1 : (0x7fffffffffffffff : UInt64).toNat = 2 ^ 63 - 1 := by decide
  have e2 : (0x7ff0000000000000 : UInt64).toNat = 9218868437227405312 := by decide
  rw [UInt64.le_iff_toNat_le, UInt64.toNat_and, e1, e2, Nat.and_two_pow_sub_one_eq_mod] at h
  unfold FP.Core.decode FP.Core.fieldE FP.Core.fieldT
  rw [fp_t, fp_x]
  split
  · rename_i g
    split
    · intro k; cases k
    · exfalso; omega
  · split <;> intro k <;> cases k
theorem cmp_s (a : Int) : compare a a = Ordering.eq := by
  simp only [compare, compareOfLessAndEq, Int.lt_irrefl, if_false, if_true]
theorem or_self {d : FP.Core.Datum} (h : d ≠ .nan) : FP.Core.order d d = some .eq := by
  cases d with
  | nan => exact absurd rfl h
  | inf s => exact congrArg some (cmp_s _)
  | fin s c q => exact congrArg some (cmp_s _)
theorem cmp_n {x : UInt64} (h : vf_n64 x) : Op.cmpValue (FP.dcmp x x) .l = 0 := by
  have : FP.dcmp x x = some .eq := or_self (de_n h)
  rw [this]; rfl
theorem n_min10 {n : Nat} (h : n < 2 ^ 31) : f_J9_min_7cf53 (10 : Int32) (nI n) = nI (min 10 n) := by
  unfold f_J9_min_7cf53
  rw [show (10 : Int32) = nI 10 from rfl]
  by_cases g : n < 10
  · rw [if_pos (nI_lt g (by decide)), Nat.min_eq_right (by omega)]
  · rw [if_neg (nI_nlt (by omega) h), Nat.min_eq_left (by omega)]
theorem V_lR0 {q : McV} {v : StV} {na : Nat} (a1 : v.2.2.2.2.2.1 = nI na) (h : na < 2 ^ 31) : f_L_loggedResult q v (f_J9_min_7cf53 (10 : Int32) (nI na)) = -900001 := by
  rw [n_min10 h]
  unfold f_L_loggedResult
  have z : f_X0_remembers v.2.2.2.2.2 (nI (min 10 na)) = 0 := rem_0 a1 h (by omega) (by omega)
  rcases V_lR (q := q) (v := v) (nI (min 10 na)) with ⟨-, g⟩ | ⟨g, -⟩
  · rw [g, if_neg (by decide), if_pos rfl]
  · rw [z] at g
    exact absurd g (by decide)
theorem f_isWell (q : McV) (v : StV) : f_L_isWell q v = 1 := by
  unfold f_L_isWell
  simp only [ite_self]
theorem isWell_ok {B : Nat} (q : McV) {v : StV} {d : MoV} (h : RS B v d.1) (hB : B < 240000) (hJ : JS dn v) : ok_L_isWell q v := by
  obtain ⟨t, c, nd, ne, np, na, ht, hc, hc2, e1, e2, hd, d1, hn, x1, hp, p1, ha, a1, a2⟩ := FV_of h hB
  obtain ⟨hX, np', hp', p1', -, hs⟩ := hJ
  have ep : np' = np := (nI_eq (by omega) (by omega)).mp (p1'.symm.trans p1)
  subst ep
  obtain ⟨t', c', -, -, -, -, -, -, -, -, hE, -, -⟩ := id h
  unfold ok_L_isWell
  have A := we_6 (q := q) (v := v) 6 0 rfl (Nat.zero_le _)
  refine ⟨A.1, fun r5 h5 => ?_⟩
  have y5 : r5.2 = nI na := by rw [h5]; exact (congrArg Prod.snd A.2).trans a2
  have C := we_27 (q := q) hp p1 hd d1 (fun j _ => eff_cases hE (nI j) (f_X8_today v)) r5 7 0 rfl (Nat.zero_le _)
  refine ⟨C.1, fun r6 h6 => ?_⟩
  have y6 : r6.2 = v.2.2.2.2.2.2.2.2.1 0 := by rw [h6]; exact (congrArg Prod.snd C.2).trans hs
  refine ⟨we_199 h hB hd d1 r5 r6 9 0 rfl (Nat.zero_le _), fun r7 _ => ⟨(we_376 hX r5 r6 r7 13 0 rfl).resolve_right (by decide), fun r8 _ => ?_⟩⟩
  have ea : f_X9_attemptsWith q v (0 : Int32) = ("", v.2.2.2.2.2.2.2.2.1 0) := V_attemptsWith (x := 0) (by decide)
  rw [ea, y5, y6]
  refine ⟨rfl, ?_⟩
  rw [if_pos rfl]
  by_cases z : nI na = 0
  · rw [if_pos z]
    refine ⟨V_lRok _, fun u hu => ?_⟩
    rw [hu, V_lR0 a1 (by omega), if_pos rfl]
    trivial
  · rw [if_neg z]
    have ec : f_X0_countResults v.2.2.2.2.2 (0 : Int32) = v.2.2.2.2.2.2.2.2.1 0 := n_at (n := 5) (j := 0) _ (by decide) (by decide)
    unfold ok_X9_entryShare f_X9_entryShare
    rw [a1, if_neg z, if_neg z, ec]
    refine ⟨⟨share_ok z, trivial⟩, rfl, share_ok z, ?_⟩
    rw [if_pos (cmp_n (share_ok z))]
    refine ⟨V_lRok _, fun u hu => ?_⟩
    rw [hu, V_lR0 a1 (by omega), if_pos rfl]
    trivial
