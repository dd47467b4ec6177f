/-! ===== the law: it is never false ===== -/
theorem UD {B : Nat} {q : McV} {v sn w : StV} {hi : HiV} {hs : Nat → StV} {tb nt : SbV} {d : MoV} (hW : RW B q v sn hi hs tb nt d) (hU : UN hi hs w) : ok_L_undo q v hi hs ∧ ¬ (f_L_undo q v hi hs).1 < 0 ∧ (f_L_undo q v hi hs).2.1 = w ∧ ∃ d1, RW B q w sn (f_L_undo q v hi hs).2.2.1 (f_L_undo q v hi hs).2.2.2 tb nt d1 := by
  obtain ⟨⟨-, ok⟩, -, X⟩ := R_undo hW
  obtain ⟨h0, h1⟩ := hU
  obtain ⟨k, x, hk, hx, k1, -⟩ := hW.2.1
  have e : f_X9_undo q v hi hs = ("", hi.1 - 1, w, (hi.1 - 1, f_J9_floorMod_7cf53 (hi.2 - 1) 9), hs) := by
    unfold f_X9_undo
    rw [if_neg h0, ← h1]; rfl
  rw [e] at X
  unfold f_L_undo ok_L_undo
  rw [e]
  dsimp only
  rw [if_pos rfl, if_pos rfl]
  refine ⟨⟨ok, trivial⟩, ?_, rfl, _, X⟩
  have : 0 < k := by
    rcases Nat.eq_zero_or_pos k with g | g
    · subst g; exact absurd k1 h0
    · exact g
  show ¬ hi.1 - 1 < 0
  rw [k1, show nI k = nI (k - 1 + 1) by rw [Nat.sub_add_cancel this], nI_pred]
  exact nI_pos (by omega)
def LI (r : Int32 × McV × StV × HiV × (Nat → StV) × PrV × SbV) : Prop := JS 1 r.2.2.1 ∧ ∃ d, RW 56160 r.2.1 r.2.2.1 stZ r.2.2.2.1 r.2.2.2.2.1 r.2.2.2.2.2.2 sbZ d
theorem cd_lt {i : Nat} (h1 : 1 ≤ i) (h : i ≤ 4) : ¬ -nI (900000 + i) = -900009 ∧ ¬ (-900000 : Int32) < -nI (900000 + i) ∧ -nI (900000 + i) ≤ -900000 := by
  rcases (show i = 1 ∨ i = 2 ∨ i = 3 ∨ i = 4 by omega) with rfl | rfl | rfl | rfl <;> decide
theorem vl_gt {j : Nat} (h : j < 2 ^ 30) : ¬ nI j = -900009 ∧ (-900000 : Int32) < nI j ∧ ¬ nI j ≤ -900000 := by
  have e := nI_toInt (show j < 2 ^ 31 by omega)
  refine ⟨fun g => ?_, ?_, ?_⟩
  · have := congrArg Int32.toInt g
    rw [e, show (-900009 : Int32).toInt = -900009 from rfl] at this
    omega
  · rw [Int32.lt_iff_toInt_lt, e, show (-900000 : Int32).toInt = -900000 from rfl]; omega
  · rw [Int32.le_iff_toInt_le, e, show (-900000 : Int32).toInt = -900000 from rfl]; omega
theorem law_20 {G : GG} (hL : scL G < 2 ^ 31) (r3 : McV × StV × StV × HiV × (Nat → StV) × PrV × SbV × SbV) (w : Int32) : ∀ (n k : Nat) (q : McV) (v : StV) (hi : HiV) (hs : Nat → StV) (pg : PrV) (tb : SbV), n + k = 8 → k ≤ 7 → JS 1 v → tb.2.2.2 = 0 → (∃ d, RW (5760 + 7200 * k) q v stZ hi hs tb sbZ d) →
    okl_lp_L_law_20 G r3 w n (nI k) q v hi hs pg tb ∧ LI (lp_L_law_20 G r3 w n (nI k) q v hi hs pg tb) := by
  intro n
  induction n with
  | zero => intro k q v hi hs pg tb h; omega
  | succ n ih =>
    intro k q v hi hs pg tb hk h7 hJ h0 hW
    obtain ⟨d, hW⟩ := hW
    unfold okl_lp_L_law_20 lp_L_law_20
    rw [show (7 : Int32) = nI 7 from rfl]
    by_cases g : 7 ≤ k
    · rw [if_pos (nI_le g (by omega)), if_pos (nI_le g (by omega))]
      exact ⟨trivial, hJ, d, hW.mono (by omega)⟩
    · rw [if_neg (nI_ge (by omega) (by omega)), if_neg (nI_ge (by omega) (by omega))]
      have eA : (57 : Int32) + (4 : Int32) * nI k = nI (57 + 4 * k) := by rw [show (4 : Int32) = nI 4 from rfl, pk_mul, show (57 : Int32) = nI 57 from rfl, nI_add]
      obtain ⟨a1, a2⟩ := acts_ok hL hW hJ (by omega) h0 pg (i := 57 + 4 * k) (by omega)
      have o86 := (in_ok hL (x := 86 + k) (n := 5) (by omega) (by decide) (by decide)).1
      have so : ok_L_seen q v := seen_ok (FV_of hW.1 (by omega))
      have nx := hW.nx
      have hu := hW.un v
      simp only [forall_eq, eA, f_isWell, nI_1, show (86 : Int32) + nI k = nI (86 + k) from nI_add 86 k]
      generalize f_L_acts q v hi hs pg tb G (nI (57 + 4 * k)) = A at a2 ⊢
      obtain ⟨⟨X, t0⟩, d1, W1⟩ := a2
      have hB : 5760 + 7200 * k + 7200 < 240000 := by omega
      have one0 : ¬ (1 : Int32) = 0 := by decide
      have al : ok_L_areAlike (f_L_seen q v).1 (f_L_seen q v).2 (f_L_seen q v).1 (f_L_seen q v).2 := al_ok 260 (f_L_seen q v).2 (by omega)
      have sz : (f_L_seen q v).1 < 2147483648 := by rw [seen_n]; omega
      rw [if_neg one0, if_neg one0]
      rcases X with ⟨i, i1, i4, e, ev⟩ | ⟨j, hj, e, e1, e2, J⟩
      · obtain ⟨c1, c2, c3⟩ := cd_lt i1 i4
        rw [← e] at c1 c2 c3
        have J1 : JS 1 A.2.2.1 := by rw [ev]; exact hJ
        have K := ih (k + 1) A.2.1 A.2.2.1 A.2.2.2.1 A.2.2.2.2.1 A.2.2.2.2.2.1 A.2.2.2.2.2.2 (by omega) (by omega) J1 t0 ⟨d1, W1.mono (by omega)⟩
        have es : f_L_seen A.2.1 A.2.2.1 = f_L_seen q v := by rw [ev]; exact seen_q _ _ _
        have wl := isWell_ok A.2.1 W1.1 hB J1
        have so2 : ok_L_seen A.2.1 A.2.2.1 := seen_ok (FV_of W1.1 hB)
        rw [if_neg c1, if_neg c1, if_neg c2, if_neg c2, es, al_1, if_neg one0, if_neg one0, if_pos c3, if_pos c3]
        exact ⟨⟨so, a1, nx, wl, so2, al, sz, sz, K.1⟩, K.2⟩
      · obtain ⟨c1, c2, c3⟩ := vl_gt hj
        rw [← e] at c1 c2 c3
        have wl := isWell_ok A.2.1 W1.1 hB J
        rw [if_neg c1, if_neg c1, if_pos c2, if_pos c2, if_neg c3, if_neg c3]
        by_cases z : f_L_in G (nI (86 + k)) 5 = 0
        · rw [if_pos z, if_pos z]
          obtain ⟨u1, u2, u3, d2, W2⟩ := UD W1 (w := v) (by rw [e1, e2]; exact hu)
          generalize f_L_undo A.2.1 A.2.2.1 A.2.2.2.1 A.2.2.2.2.1 = U at u1 u2 u3 W2 ⊢
          have J2 : JS 1 U.2.1 := by rw [u3]; exact hJ
          have W3 : RW (5760 + 7200 * k + 7200) A.2.1 U.2.1 stZ U.2.2.1 U.2.2.2 A.2.2.2.2.2.2 sbZ d2 := by rw [u3]; exact W2
          have K := ih (k + 1) A.2.1 U.2.1 U.2.2.1 U.2.2.2 A.2.2.2.2.2.1 A.2.2.2.2.2.2 (by omega) (by omega) J2 t0 ⟨d2, W3.mono (by omega)⟩
          have es : f_L_seen A.2.1 U.2.1 = f_L_seen q v := by rw [u3]; exact seen_q _ _ _
          have so2 : ok_L_seen A.2.1 U.2.1 := seen_ok (FV_of W3.1 hB)
          rw [if_neg u2, if_neg u2, es, al_1, if_neg one0, if_neg one0]
          exact ⟨⟨so, a1, nx, wl, o86, u1, so2, al, sz, sz, K.1⟩, K.2⟩
        · rw [if_neg z, if_neg z]
          have K := ih (k + 1) A.2.1 A.2.2.1 A.2.2.2.1 A.2.2.2.2.1 A.2.2.2.2.2.1 A.2.2.2.2.2.2 (by omega) (by omega) J t0 ⟨d1, W1.mono (by omega)⟩
          exact ⟨⟨so, a1, nx, wl, o86, K.1⟩, K.2⟩
/-! how large are the answers -/
theorem dp_b (v : StV) (ph : Int32) : ∀ (n x : Nat), x + n ≤ 100 → ∃ j, j ≤ 100 ∧ lp_X8_daysToPhase_2 v ph n (nI x) = nI j := by
  intro n
  induction n with
  | zero => intro x h; exact ⟨0, by omega, rfl⟩
  | succ n ih =>
    intro x h
    unfold lp_X8_daysToPhase_2
    rw [nI_1]
    split
    · exact ⟨x, by omega, rfl⟩
    · split
      · exact ⟨x, by omega, rfl⟩
      · exact ih (x + 1) (by omega)
theorem pr_b (p : PeV) (r : Int32) : ∀ (n x : Nat), x + n ≤ 100 → SB 1 (lp_X5_personOfRank_2 p r n (nI x)) := by
  intro n
  induction n with
  | zero => intro x h; exact SB_0.mono (by omega)
  | succ n ih =>
    intro x h
    unfold lp_X5_personOfRank_2
    rw [nI_1]
    split
    · exact ⟨by decide, by decide⟩
    · split
      · exact SB_n (by omega)
      · exact ih (x + 1) (by omega)
theorem hr_b : ∀ b, b < 24 → ∀ c, c < 24 → ∃ j, j < 25 ∧ f_J9_floorMod_7cf53 (nI c - nI b) 24 + 1 = nI j := by decide +kernel
theorem hd_b {v : StV} {s : Nat → Int32} (h : RD v.2.2.1 s) {j : Nat} (hj : j < 8) (dy : Int32) : SB 1 (f_X8_countHoursOnDay v (nI j) dy) := by
  have hc : SB 1 (f_X2_countHours v.2.2.1 (nI j)) := by
    obtain ⟨n, -, -, -, h4⟩ := h
    obtain ⟨a, b, c, e, -, hb, hc, -, r1, r2, r3, r4, -⟩ := h4 j hj
    unfold f_X2_countHours
    rw [n_at _ hj (by decide), n_at _ hj (by decide), r2, r3]
    obtain ⟨x, hx, ex⟩ := hr_b b hb c hc
    show SB 1 (f_J9_floorMod_7cf53 (nI c - nI b) 24 + 1)
    rw [ex]
    exact SB_n (by omega)
  unfold f_X8_countHoursOnDay
  dsimp only
  split
  · exact ⟨by decide, by decide⟩
  · split
    · exact SB_0.mono (by omega)
    · split
      · exact SB_0.mono (by omega)
      · exact hc
theorem uh_b {v : StV} {s : Nat → Int32} (h : RD v.2.2.1 s) {j : Nat} (hj : j < 8) (ds : Int32) : ∀ (n k : Nat) (x a : Int32), k + n ≤ 20 → SB k a → SB 20 (lp_X8_countUnlockedHours_5 v (nI j) ds n x a) := by
  intro n
  induction n with
  | zero => intro k x a hk ha; exact SB_0.mono (by omega)
  | succ n ih =>
    intro k x a hk ha
    unfold lp_X8_countUnlockedHours_5
    split
    · exact ha.mono (by omega)
    · exact ih (k + 1) _ _ (by omega) (SB_add ha (hd_b h hj _) (by omega))
/-- a helper that reads: its code or its answer -/
theorem rd_1 {E0 : String} {X : String × Int32} (h : X.1 = "" ∨ X.1 = E0) (hE : ¬ E0 = "") {k : Nat} (hv : SB k X.2) (hk : 1 ≤ k) : (if X.1 = "" then True else if X.1 = E0 then True else False) ∧ SB k (if X.1 = "" then X.2 else if X.1 = E0 then (-900001 : Int32) else 0) := by
  have c1 : SB 1 (-900001 : Int32) := ⟨by decide, by decide⟩
  rcases h with g | g <;> rw [g]
  · rw [if_pos rfl, if_pos rfl]; exact ⟨trivial, hv⟩
  · rw [if_neg hE, if_pos rfl, if_neg hE, if_pos rfl]; exact ⟨trivial, c1.mono hk⟩
theorem rd_2 {E0 E1 : String} {X : String × Int32} (h : X.1 = "" ∨ X.1 = E0 ∨ X.1 = E1) (hE : ¬ E0 = "") (hE1 : ¬ E1 = "") (hE2 : ¬ E1 = E0) {k : Nat} (hv : SB k X.2) (hk : 1 ≤ k) : (if X.1 = "" then True else if X.1 = E0 then True else if X.1 = E1 then True else False) ∧ SB k (if X.1 = "" then X.2 else if X.1 = E0 then (-900001 : Int32) else if X.1 = E1 then (-900002 : Int32) else 0) := by
  have c1 : SB 1 (-900001 : Int32) := ⟨by decide, by decide⟩
  have c2 : SB 1 (-900002 : Int32) := ⟨by decide, by decide⟩
  rcases h with g | g | g <;> rw [g]
  · rw [if_pos rfl, if_pos rfl]; exact ⟨trivial, hv⟩
  · rw [if_neg hE, if_pos rfl, if_neg hE, if_pos rfl]; exact ⟨trivial, c1.mono hk⟩
  · rw [if_neg hE1, if_neg hE2, if_pos rfl, if_neg hE1, if_neg hE2, if_pos rfl]; exact ⟨trivial, c2.mono hk⟩
theorem lh_b (v : StV) (dr : Int32) : ∀ (n x : Nat), x + n ≤ 2000 → SB 1 (lp_X8_lookHourByHour_2 v dr n (nI x)) := by
  intro n
  induction n with
  | zero => intro x h; exact SB_0.mono (by omega)
  | succ n ih =>
    intro x h
    unfold lp_X8_lookHourByHour_2
    rw [nI_1]
    split
    · exact ⟨by decide, by decide⟩
    · split
      · exact ih (x + 1) (by omega)
      · exact SB_n (by omega)
theorem SB_01 : SB 1 0 := SB_0.mono (by omega)
theorem rd_h {B : Nat} {q : McV} {v sn : StV} {hi : HiV} {hs : Nat → StV} {tb nt : SbV} {d : MoV} (hW : RW B q v sn hi hs tb nt d) (hB : B < 240000) (x : Int32) : ok_L_hoursUntilUnlocked q v x ∧ SB 1 (f_L_hoursUntilUnlocked q v x) := by
  have h := RC_2 (R_hoursUntilUnlocked hW x (by omega)).2.1
  have hv : SB 1 (f_X9_hoursUntilUnlocked q v x).2 := by
    have l : SB 1 (f_X8_lookHourByHour v x) := by
      unfold f_X8_lookHourByHour
      rw [show (((1000 : Int32)).toInt - ((0 : Int32)).toInt + 1).toNat + 1 = 1002 from by decide]
      exact lh_b v x 1002 0 (by omega)
    unfold f_X9_hoursUntilUnlocked
    generalize f_X8_lookHourByHour v x = y at l
    dsimp only
    repeat' split
    all_goals first | exact l | exact SB_01
  unfold ok_L_hoursUntilUnlocked f_L_hoursUntilUnlocked
  generalize f_X9_hoursUntilUnlocked q v x = X at h hv ⊢
  exact rd_2 h (by decide) (by decide) (by decide) hv (by omega)
theorem rd_u {B : Nat} {q : McV} {v sn : StV} {hi : HiV} {hs : Nat → StV} {tb nt : SbV} {d : MoV} (hW : RW B q v sn hi hs tb nt d) (hB : B < 240000) : ok_L_unlockedHours q v 0 9 ∧ SB 20 (f_L_unlockedHours q v 0 9) := by
  have h := RC_2 (R_unlockedHours hW 0 9 (by omega)).2.1
  have hv : SB 20 (f_X9_unlockedHours q v 0 9).2 := by
    have l : SB 20 (f_X8_countUnlockedHours v 0 9) := by
      unfold f_X8_countUnlockedHours
      rw [show ((9 : Int32).toInt - ((0 : Int32)).toInt).toNat + 1 = 10 from by decide]
      obtain ⟨t, c, ht, hc, hc2, e1, e2, e3, e4, hD, -⟩ := hW.1
      exact uh_b hD (j := 0) (by omega) 9 10 0 0 0 (by omega) SB_0
    unfold f_X9_unlockedHours
    generalize f_X8_countUnlockedHours v 0 9 = y at l
    repeat' split
    all_goals first | exact l | exact SB_01.mono (by omega)
  unfold ok_L_unlockedHours f_L_unlockedHours
  generalize f_X9_unlockedHours q v 0 9 = X at h hv ⊢
  exact rd_2 h (by decide) (by decide) (by decide) hv (by omega)
theorem rd_d {B : Nat} {q : McV} {v sn : StV} {hi : HiV} {hs : Nat → StV} {tb nt : SbV} {d : MoV} (hW : RW B q v sn hi hs tb nt d) (hB : B < 240000) (x : Int32) : ok_L_daysUntilPhase q v x ∧ SB 1 (f_L_daysUntilPhase q v x) := by
  have h := RC_1 (R_daysUntilPhase hW x (by omega)).2.1
  have hv : SB 1 (f_X9_daysUntilPhase q v x).2 := by
    have l : SB 1 (f_X8_daysToPhase v x) := by
      unfold f_X8_daysToPhase
      obtain ⟨t, c, ht, hc, hc2, e1, e2, e3, e4, hD, -⟩ := hW.1
      rw [e3, nI_toInt (by omega), show (1 : Int32).toInt = 1 from rfl]
      obtain ⟨j, hj, e⟩ := dp_b v x (((c : Int) - 1).toNat + 1) 1 (by omega)
      rw [show (1 : Int32) = nI 1 from rfl, e]
      exact SB_n (by omega)
    unfold f_X9_daysUntilPhase
    generalize f_X8_daysToPhase v x = y at l
    repeat' split
    all_goals first | exact l | exact SB_01
  unfold ok_L_daysUntilPhase f_L_daysUntilPhase
  generalize f_X9_daysUntilPhase q v x = X at h hv ⊢
  exact rd_1 h (by decide) hv (by omega)
theorem rd_p {B : Nat} {q : McV} {v sn : StV} {hi : HiV} {hs : Nat → StV} {tb nt : SbV} {d : MoV} (hW : RW B q v sn hi hs tb nt d) (hB : B < 240000) (x : Int32) : ok_L_personByEntries q v x ∧ SB 1 (f_L_personByEntries q v x) := by
  have h := RC_1 (R_personByEntries hW x (by omega)).2.1
  have hv : SB 1 (f_X9_personByEntries q v x).2 := by
    have l : SB 1 (f_X5_personOfRank v.2.2.2.2.1 x) := by
      unfold f_X5_personOfRank
      obtain ⟨t, c, ht, hc, hc2, e1, e2, e3, e4, hD, hE, ⟨np, p1, p2, -⟩, -⟩ := hW.1
      rw [p2, nI_toInt (by omega), show (0 : Int32).toInt = 0 from rfl]
      exact pr_b _ x _ 0 (by omega)
    unfold f_X9_personByEntries
    generalize f_X5_personOfRank v.2.2.2.2.1 x = y at l
    repeat' split
    all_goals first | exact l | exact SB_01
  unfold ok_L_personByEntries f_L_personByEntries
  generalize f_X9_personByEntries q v x = X at h hv ⊢
  exact rd_1 h (by decide) hv (by omega)
theorem rd_w {B : Nat} {q : McV} {v sn : StV} {hi : HiV} {hs : Nat → StV} {tb nt : SbV} {d : MoV} (hW : RW B q v sn hi hs tb nt d) (hB : B < 240000) (x y : Int32) : ok_L_wouldEnter q v x y ∧ SB 1 (f_L_wouldEnter q v x y) := by
  have h := RC_1 (R_wouldEnter hW x y (by omega)).2.1
  have hv : SB 1 (f_X9_wouldEnter q v x y).2 := by
    obtain ⟨r, hr, e⟩ := rs_5 v x y
    have l : SB 1 (f_X8_resultFor v x y) := by rw [e]; exact SB_n (by omega)
    unfold f_X9_wouldEnter
    generalize f_X8_resultFor v x y = z at l
    repeat' split
    all_goals first | exact l | exact SB_01
  unfold ok_L_wouldEnter f_L_wouldEnter
  generalize f_X9_wouldEnter q v x y = X at h hv ⊢
  exact rd_1 h (by decide) hv (by omega)
theorem wn_b {q : McV} {v : StV} {nb : SbV} {dr : Int32} (h : f_X9_requireDoor q v dr = "") : (f_X9_writeNotice q v nb dr).1 = "" ∧ (f_X9_writeNotice q v nb dr).2.1 = (f_X9_writeNotice q v nb dr).2.2.2.2.2 := by
  unfold f_X9_writeNotice
  rw [if_pos h]
  dsimp only
  split
  · exact ⟨rfl, rfl⟩
  · exact ⟨rfl, rfl⟩
set_option maxHeartbeats 4000000 in
theorem law_ok {G : GG} (hL : scL G < 2 ^ 31) : ok_L_law G := by
  obtain ⟨b0, v0, hi0, hs0, eb, J0, d0, W0⟩ := begun_ok hL
  have one0 : ¬ (1 : Int32) = 0 := by decide
  unfold ok_L_law
  refine ⟨b0, fun r hr => ?_⟩
  rw [eb] at hr
  subst hr
  refine ⟨isWell_ok mcZ W0.1 (by omega) J0, fun w hw => ?_⟩
  have hw : w = 1 := hw.trans (f_isWell _ _)
  rw [if_neg (show ¬ w = 0 by rw [hw]; decide)]
  obtain ⟨L1, L2⟩ := law_20 hL (mcZ, v0, stZ, hi0, hs0, prZ, sbZ, sbZ) w 8 0 mcZ v0 hi0 hs0 prZ sbZ rfl (by omega) J0 rfl ⟨d0, W0⟩
  refine ⟨L1, fun r hr => ?_⟩
  have L2 : LI r := by rw [hr]; exact L2
  clear hr L1
  obtain ⟨x1, q1, v1, hi1, hs1, pg1, tb1⟩ := r
  obtain ⟨J1, d1, W1⟩ := L2
  dsimp only at J1 W1 ⊢
  refine ⟨seen_ok (FV_of W1.1 (by omega)), fun s hs => ?_⟩
  obtain ⟨-, -, -, W2⟩ := R_save W1
  generalize (f_X10_save d1).2 = d2 at W2
  have e0 : f_X9_save q1 v1 stZ = (v1.2.2.2.2.2.1, ((1 : Int32), q1.2.1, q1.2.2), v1) := rfl
  rw [e0] at W2
  refine fun r hr => ?_
  rw [e0] at hr
  subst hr
  dsimp only at W2 ⊢
  obtain ⟨q2, hq⟩ : ∃ q : McV, q = ((1 : Int32), q1.2.1, q1.2.2) := ⟨_, rfl⟩
  rw [← hq] at W2 ⊢
  obtain ⟨h1, h2⟩ := rd_h W2 (by omega) 0
  obtain ⟨u1, u2⟩ := rd_u W2 (by omega)
  obtain ⟨p1, p2⟩ := rd_d W2 (by omega) 3
  obtain ⟨⟨ne, nd, Z, -, hd, hn, dd, -⟩, -⟩ := id J1
  have rq : f_X9_requireDoor q2 v1 0 = "" := dr_ok dd hd (j := 0) (by omega)
  obtain ⟨n1, n2⟩ := wn_b (q := q2) (v := v1) (nb := sbZ) rq
  obtain ⟨⟨-, n3⟩, -, W3⟩ := R_writeNotice W2 (by omega) 0
  generalize (f_X10_writeNotice d2 0).2 = d3 at W3
  have n4 : SB 1 (f_X9_writeNotice q2 v1 sbZ 0).2.1 := by
    obtain ⟨l, hT, -, hl⟩ := W3.2.2.2.2.2.2
    rw [n2, hT.2.2.1]
    exact SB_n (by omega)
  obtain ⟨y1, y2⟩ := rd_p W2 (by omega) 0
  obtain ⟨z1, z2⟩ := rd_w W2 (by omega) 0 0
  have es : f_L_seen q2 v1 = f_L_seen q1 v1 := seen_q _ _ _
  have al : ok_L_areAlike (f_L_seen q1 v1).1 (f_L_seen q1 v1).2 (f_L_seen q1 v1).1 (f_L_seen q1 v1).2 := al_ok 260 (f_L_seen q1 v1).2 (by omega)
  have sz : (f_L_seen q1 v1).1 < 2147483648 := by rw [seen_n]; omega
  subst hs
  refine ⟨h1, fun r1 e1 => ⟨u1, fun r2 e2 => ⟨p1, fun r3 e3 => ⟨n3, n1, fun r4 e4 => ⟨y1, fun r5 e5 => ⟨z1, fun r6 e6 => ⟨seen_ok (FV_of W2.1 (by omega)), fun r7 e7 => ?_⟩⟩⟩⟩⟩⟩⟩
  rw [es] at e7
  subst e7
  refine ⟨al, sz, sz, ?_⟩
  rw [al_1, if_neg one0]
  rw [← e1] at h2
  rw [← e2] at u2
  rw [← e3] at p2
  rw [← e4] at n4 W3
  rw [← e5] at y2
  rw [← e6] at z2
  clear e1 e2 e3 e4 e5 e6
  obtain ⟨a1, a2, d4, a3⟩ := WS_advance W2 J1 (by omega) 30
  obtain ⟨s1, k1⟩ := ws_in a2 J1 (by omega)
  refine ⟨a1, fun r8 e8 => ?_⟩
  rw [← e8] at a3 s1 k1
  obtain ⟨b1, b2, d5, b3⟩ := WS_tryDoor a3 k1 (by omega) 0 0
  obtain ⟨s2, k2⟩ := ws_in b2 k1 (by omega)
  refine ⟨b1, fun r9 e9 => ?_⟩
  rw [← e9] at b3 s2 k2
  obtain ⟨c1, c2, d6, c3⟩ := WS_setCycle b3 k2 (by omega) 25
  obtain ⟨s3, k3⟩ := ws_in c2 k2 (by omega)
  refine ⟨c1, fun ra ea => ?_⟩
  rw [← ea] at c3 s3 k3
  obtain ⟨f1, f2, d7, f3⟩ := WS_addPerson c3 k3 (by omega)
  obtain ⟨s4, k4⟩ := ws_in f2 k3 (by omega)
  refine ⟨f1, fun rb eb => ?_⟩
  rw [← eb] at f3 s4 k4
  obtain ⟨g1, g2, d8, g3⟩ := WS_addException f3 k4 (by omega) 1 (f_X9_day q2 rb.2.1) 1 (Or.inr rfl)
  obtain ⟨s5, k5⟩ := ws_in g2 k4 (by omega)
  refine ⟨g1, fun rc ec => ?_⟩
  rw [← ec] at g3 s5 k5
  rw [if_neg (SB_gt (SB_add (SB_add (SB_add (SB_add (SB_add (SB_add h2 u2 (by omega)) p2 (by omega)) n4 (by omega)) y2 (by omega)) z2 (by omega)) (SB_add (SB_add (SB_add (SB_add s1 s2 (by omega)) s3 (by omega)) s4 (by omega)) s5 (by omega)) (by omega)) (by omega))]
  have er : f_X9_restore q2 rc.2.1 v1 rc.2.2.1 = ("", v1.2.2.2.2.2.1, v1, (0, rc.2.2.1.2)) := by
    unfold f_X9_restore
    rw [hq, if_neg one0]; rfl
  have e9r : f_L_restore q2 rc.2.1 v1 rc.2.2.1 = (v1.2.2.2.2.2.1, v1, (0, rc.2.2.1.2)) := by
    unfold f_L_restore
    rw [er]; rfl
  have okr : ok_L_restore q2 rc.2.1 v1 rc.2.2.1 := by
    unfold ok_L_restore
    rw [er]
    dsimp only
    rw [if_pos rfl]; trivial
  refine ⟨okr, fun rd ed => ?_⟩
  rw [e9r] at ed
  subst ed
  dsimp only
  rw [if_pos rfl]
  refine ⟨seen_ok (FV_of W2.1 (by omega)), fun re ee => ?_⟩
  rw [es] at ee
  subst ee
  refine ⟨al, sz, sz, ?_⟩
  rw [al_1, if_neg one0]
  have eu : f_X9_undo q2 v1 (0, rc.2.2.1.2) rc.2.2.2 = ("java/lang/IllegalStateException", 0, v1, (0, rc.2.2.1.2), rc.2.2.2) := by
    unfold f_X9_undo
    rw [if_pos rfl]
  have oku : ok_L_undo q2 v1 (0, rc.2.2.1.2) rc.2.2.2 := by
    unfold ok_L_undo ok_X9_undo
    rw [eu, if_pos rfl]
    dsimp only
    rw [if_neg (show ¬ ("java/lang/IllegalStateException" : String) = "" by decide), if_pos rfl]
    exact ⟨trivial, trivial⟩
  have elu : f_L_undo q2 v1 (0, rc.2.2.1.2) rc.2.2.2 = (-900001, v1, (0, rc.2.2.1.2), rc.2.2.2) := by
    unfold f_L_undo
    rw [eu]
    dsimp only
    rw [if_neg (show ¬ ("java/lang/IllegalStateException" : String) = "" by decide), if_pos rfl]
  refine ⟨oku, fun rf ef => ?_⟩
  rw [elu] at ef
  subst ef
  rw [if_pos rfl]
  trivial
theorem f_law_1 (G : GG) : f_L_law G = 1 := by
  unfold f_L_law
  simp only [ite_self]
