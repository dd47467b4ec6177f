/-! ===== a program's text: what both sides read in it ===== -/
def psh (g : Nat → Nat) : List Nat → Nat → Nat
  | [], _ => 0
  | c :: w, p => if g p = c then psh g w (p + 1) + 1 else 0
theorem psh_le (g : Nat → Nat) : ∀ (w : List Nat) (p : Nat), psh g w p ≤ w.length
  | [], _ => Nat.le_refl 0
  | c :: w, p => by
    show (if g p = c then psh g w (p + 1) + 1 else 0) ≤ w.length + 1
    have := psh_le g w (p + 1)
    split <;> omega
def pnu (g : Nat → Nat) : Nat → Nat → Nat → Nat × Nat
  | 0, a, p => (a, p)
  | k + 1, a, p => if 48 ≤ g p ∧ g p ≤ 57 then pnu g k (10 * a + (g p - 48)) (p + 1) else (a, p)
theorem pnu_pos (g : Nat → Nat) : ∀ (k a p : Nat), p ≤ (pnu g k a p).2 ∧ (pnu g k a p).2 ≤ p + k
  | 0, a, p => ⟨Nat.le_refl p, Nat.le_refl p⟩
  | k + 1, a, p => by
    show p ≤ (if 48 ≤ g p ∧ g p ≤ 57 then pnu g k (10 * a + (g p - 48)) (p + 1) else (a, p)).2 ∧ (if 48 ≤ g p ∧ g p ≤ 57 then pnu g k (10 * a + (g p - 48)) (p + 1) else (a, p)).2 ≤ p + (k + 1)
    have := pnu_pos g k (10 * a + (g p - 48)) (p + 1)
    split
    · omega
    · exact ⟨Nat.le_refl p, Nat.le_add_right p _⟩
def pwv (g : Nat → Nat) (k : Nat) (w : List Nat) (p : Nat) : Bool × Nat × Nat := if psh g w p = w.length then (true, k, p + psh g w p) else (false, 8, p + psh g w p)
def pvb (g : Nat → Nat) (p : Nat) : Bool × Nat × Nat :=
  if g p = 103 then pwv g 0 [105, 118, 101, 32] (p + 1)
  else if g p = 116 then (if g (p + 1) = 97 then pwv g 1 [107, 101, 32] (p + 2) else pwv g 2 [114, 121, 32] (p + 1))
  else if g p = 111 then pwv g 3 [112, 101, 110, 32] (p + 1)
  else if g p = 115 then pwv g 4 [104, 117, 116, 32] (p + 1)
  else if g p = 108 then pwv g 5 [105, 102, 116, 32] (p + 1)
  else if g p = 109 then pwv g 6 [111, 111, 110, 32] (p + 1)
  else if g p = 119 then pwv g 7 [97, 105, 116, 32] (p + 1)
  else (false, 8, p)
def parP (g : Nat → Nat) (p : Nat) : Bool × Nat × Nat × Nat :=
  if (pnu g 1 0 p).2 = p then (false, 0, 0, p)
  else if (pnu g 1 0 (pnu g 1 0 p).2).2 = (pnu g 1 0 p).2 then (false, 0, 0, (pnu g 1 0 p).2)
  else (true, (pnu g 1 0 p).1, (pnu g 1 0 (pnu g 1 0 p).2).1, (pnu g 1 0 (pnu g 1 0 p).2).2)
def parD (g : Nat → Nat) (p : Nat) : Bool × Nat × Nat × Nat :=
  if (pnu g 1 0 p).2 = p then (false, 0, 0, p)
  else if g (pnu g 1 0 p).2 = 32 then
    (if (pnu g 3 0 ((pnu g 1 0 p).2 + 1)).2 = (pnu g 1 0 p).2 + 1 then (false, 0, 0, (pnu g 1 0 p).2 + 1)
    else (true, (pnu g 1 0 p).1, (pnu g 3 0 ((pnu g 1 0 p).2 + 1)).1, (pnu g 3 0 ((pnu g 1 0 p).2 + 1)).2))
  else (false, 0, 0, (pnu g 1 0 p).2)
def parN (g : Nat → Nat) (p : Nat) : Bool × Nat × Nat × Nat :=
  if (pnu g 3 0 p).2 = p then (false, 0, 0, p) else (true, (pnu g 3 0 p).1, 0, (pnu g 3 0 p).2)
def par (g : Nat → Nat) (k p : Nat) : Bool × Nat × Nat × Nat := if k ≤ 2 then parP g p else if k ≤ 5 then parD g p else parN g p
def pwa (g : Nat → Nat) (v : Bool × Nat × Nat) : Bool × Nat × Nat × Nat × Nat := if v.1 = true then ((par g v.2.1 v.2.2).1, v.2.1, (par g v.2.1 v.2.2).2) else (false, 8, 0, 0, v.2.2)
def pcm (g : Nat → Nat) (p : Nat) : Bool × Nat × Nat × Nat × Nat := pwa g (pvb g p)
/-- where command k stands -/
def pps (g : Nat → Nat) : Nat → Nat
  | 0 => 0
  | k + 1 => (pcm g (pps g k)).2.2.2.2 + 1
/-! where reading ends -/
theorem pwv_pos (g : Nat → Nat) (k : Nat) (w : List Nat) (p : Nat) : p ≤ (pwv g k w p).2.2 ∧ (pwv g k w p).2.2 ≤ p + w.length ∧ ((pwv g k w p).1 = true → (pwv g k w p).2.1 = k) := by
  unfold pwv
  have := psh_le g w p
  split
  · exact ⟨Nat.le_add_right p _, by show p + _ ≤ p + _; omega, fun _ => rfl⟩
  · exact ⟨Nat.le_add_right p _, by show p + _ ≤ p + _; omega, fun h => absurd h Bool.false_ne_true⟩
theorem pvb_pos (g : Nat → Nat) (p : Nat) : p ≤ (pvb g p).2.2 ∧ (pvb g p).2.2 ≤ p + 5 ∧ ((pvb g p).1 = true → (pvb g p).2.1 < 8 ∧ g p ≠ 0 ∧ p < (pvb g p).2.2) := by
  have key : ∀ (k : Nat) (w : List Nat) (q : Nat), k < 8 → p < q → q + w.length ≤ p + 5 → g p ≠ 0 → p ≤ (pwv g k w q).2.2 ∧ (pwv g k w q).2.2 ≤ p + 5 ∧ ((pwv g k w q).1 = true → (pwv g k w q).2.1 < 8 ∧ g p ≠ 0 ∧ p < (pwv g k w q).2.2) := fun k w q hk hq hl h0 => by
    obtain ⟨a1, a2, a3⟩ := pwv_pos g k w q
    exact ⟨by omega, by omega, fun h => ⟨by rw [a3 h]; exact hk, h0, by omega⟩⟩
  unfold pvb
  split
  · exact key _ _ _ (by decide) (by omega) (Nat.le_refl _) (by omega)
  · split
    · split
      · exact key _ _ _ (by decide) (by omega) (Nat.le_refl _) (by omega)
      · exact key _ _ _ (by decide) (by omega) (by show p + 1 + 3 ≤ p + 5; omega) (by omega)
    · split
      · exact key _ _ _ (by decide) (by omega) (Nat.le_refl _) (by omega)
      · split
        · exact key _ _ _ (by decide) (by omega) (Nat.le_refl _) (by omega)
        · split
          · exact key _ _ _ (by decide) (by omega) (Nat.le_refl _) (by omega)
          · split
            · exact key _ _ _ (by decide) (by omega) (Nat.le_refl _) (by omega)
            · split
              · exact key _ _ _ (by decide) (by omega) (Nat.le_refl _) (by omega)
              · exact ⟨Nat.le_refl p, by show p ≤ p + 5; omega, fun h => absurd h Bool.false_ne_true⟩
theorem par_pos (g : Nat → Nat) (k p : Nat) : p ≤ (par g k p).2.2.2 ∧ (par g k p).2.2.2 ≤ p + 5 := by
  have a1 := pnu_pos g 1 0 p
  have a2 := pnu_pos g 1 0 (pnu g 1 0 p).2
  have a3 := pnu_pos g 3 0 p
  have a4 := pnu_pos g 3 0 ((pnu g 1 0 p).2 + 1)
  unfold par parP parD parN
  split
  · split
    · exact ⟨Nat.le_refl p, by show p ≤ p + 5; omega⟩
    · split
      · exact ⟨a1.1, by show (pnu g 1 0 p).2 ≤ _; omega⟩
      · exact ⟨by show p ≤ (pnu g 1 0 (pnu g 1 0 p).2).2; omega, by show (pnu g 1 0 (pnu g 1 0 p).2).2 ≤ _; omega⟩
  · split
    · split
      · exact ⟨Nat.le_refl p, by show p ≤ p + 5; omega⟩
      · split
        · split
          · exact ⟨by show p ≤ (pnu g 1 0 p).2 + 1; omega, by show (pnu g 1 0 p).2 + 1 ≤ _; omega⟩
          · exact ⟨by show p ≤ (pnu g 3 0 ((pnu g 1 0 p).2 + 1)).2; omega, by show (pnu g 3 0 ((pnu g 1 0 p).2 + 1)).2 ≤ _; omega⟩
        · exact ⟨a1.1, by show (pnu g 1 0 p).2 ≤ _; omega⟩
    · split
      · exact ⟨Nat.le_refl p, by show p ≤ p + 5; omega⟩
      · exact ⟨a3.1, by show (pnu g 3 0 p).2 ≤ _; omega⟩
theorem pcm_pos (g : Nat → Nat) (p : Nat) : p ≤ (pcm g p).2.2.2.2 ∧ (pcm g p).2.2.2.2 ≤ p + 10 ∧ ((pcm g p).1 = true → (pcm g p).2.1 < 8 ∧ g p ≠ 0 ∧ p < (pcm g p).2.2.2.2) := by
  obtain ⟨a1, a2, a3⟩ := pvb_pos g p
  have b := par_pos g (pvb g p).2.1 (pvb g p).2.2
  unfold pcm pwa
  by_cases h : (pvb g p).1 = true
  · rw [if_pos h]
    obtain ⟨c1, c2, c3⟩ := a3 h
    refine ⟨?_, ?_, fun _ => ⟨c1, c2, ?_⟩⟩
    · show p ≤ (par g (pvb g p).2.1 (pvb g p).2.2).2.2.2; omega
    · show (par g (pvb g p).2.1 (pvb g p).2.2).2.2.2 ≤ _; omega
    · show p < (par g (pvb g p).2.1 (pvb g p).2.2).2.2.2; omega
  · rw [if_neg h]
    exact ⟨a1, by show (pvb g p).2.2 ≤ _; omega, fun h => absurd h Bool.false_ne_true⟩
/-! ===== the class reads ===== -/
theorem pg_lt {l : List Nat} (h : ∀ c ∈ l, c < 128) (p : Nat) : l.getD p 0 < 128 := by
  rw [List.getD_eq_getElem?_getD]
  by_cases g : p < l.length
  · rw [List.getElem?_eq_getElem g]; exact h _ (List.getElem_mem g)
  · rw [List.getElem?_eq_none (by omega)]; decide
theorem pg_out {l : List Nat} {p : Nat} (h : l.length ≤ p) : l.getD p 0 = 0 := by
  rw [List.getD_eq_getElem?_getD, List.getElem?_eq_none h]; rfl
theorem x_sign {sb : SbV} {l : List Nat} (h : TX sb l) (r : PrV) {p : Nat} (hp : p < 2 ^ 30) : f_X6_signAt r sb (nI p) = nI (l.getD p 0) ∧ ok_X6_signAt r sb (nI p) := by
  have hl : l.length ≤ 70 := by have h1 := h.1; have h2 := h.2.1; omega
  unfold f_X6_signAt ok_X6_signAt
  rw [if_neg (nI_pos (by omega)), if_neg (nI_pos (by omega)), tx_len h]
  by_cases hp' : l.length ≤ p
  · rw [if_pos (nI_le hp' (by omega)), if_pos (nI_le hp' (by omega)), pg_out hp']
    exact ⟨rfl, trivial⟩
  · have a := tx_at h (i := p) (by omega)
    rw [if_neg (nI_ge (by omega) (by omega)), if_neg (nI_ge (by omega) (by omega))]
    exact ⟨a.1, a.2, trivial⟩
theorem x_rs {sb : SbV} {l : List Nat} (h : TX sb l) (r : Int32 × Int32 × Int32) {p c : Nat} (hp : p < 2 ^ 30) (hc : c < 128) : f_X6_readSign (nI p, r) sb (nI c) = (if l.getD p 0 = c then (1, (nI (p + 1), r)) else (0, (nI p, r))) ∧ ok_X6_readSign (nI p, r) sb (nI c) := by
  have a := x_sign h (nI p, r) hp
  have g := pg_lt h.2.2.2.2.2 p
  unfold f_X6_readSign ok_X6_readSign
  refine ⟨?_, a.2, trivial⟩
  show (if f_X6_signAt (nI p, r) sb (nI p) = nI c then ((1 : Int32), (nI p + 1, r)) else (0, (nI p, r))) = _
  rw [a.1, nI_1]
  by_cases e : l.getD p 0 = c
  · rw [if_pos (congrArg nI e), if_pos e]
  · rw [if_neg (fun w => e ((nI_eq (by omega) (by omega)).mp w)), if_neg e]
theorem x_dig {sb : SbV} {l : List Nat} (h : TX sb l) (r : Int32 × Int32 × Int32) {p : Nat} (hp : p < 2 ^ 30) : f_X6_readDigit (nI p, r) sb = (if 48 ≤ l.getD p 0 ∧ l.getD p 0 ≤ 57 then (nI (l.getD p 0 - 48), (nI (p + 1), r)) else (-1, (nI p, r))) ∧ ok_X6_readDigit (nI p, r) sb := by
  have a := x_sign h (nI p, r) hp
  have g := pg_lt h.2.2.2.2.2 p
  unfold f_X6_readDigit ok_X6_readDigit
  refine ⟨?_, a.2, trivial⟩
  show (if f_X6_signAt (nI p, r) sb (nI p) < 48 then ((-1 : Int32), (nI p, r)) else if f_X6_signAt (nI p, r) sb (nI p) ≤ 57 then (f_X6_signAt (nI p, r) sb (nI p) - 48, (nI p + 1, r)) else (-1, (nI p, r))) = _
  rw [a.1, nI_1, q_48, q_57]
  by_cases e : l.getD p 0 < 48
  · rw [if_pos (nI_lt e (by omega)), if_neg (by omega)]
  · rw [if_neg (nI_nlt (by omega) (by omega))]
    by_cases f : l.getD p 0 ≤ 57
    · rw [if_pos (nI_le f (by omega)), if_pos (by omega), pk_sub (by omega)]
    · rw [if_neg (nI_ge (by omega) (by omega)), if_neg (by omega)]
theorem x_num {sb : SbV} {l : List Nat} (h : TX sb l) (r : Int32 × Int32 × Int32) {p : Nat} (hp : p < 2 ^ 29) : f_X6_readNumber (nI p, r) sb = (if (pnu (fun i => l.getD i 0) 3 0 p).2 = p then (-1, (nI p, r)) else (nI (pnu (fun i => l.getD i 0) 3 0 p).1, (nI (pnu (fun i => l.getD i 0) 3 0 p).2, r))) ∧ ok_X6_readNumber (nI p, r) sb := by
  obtain ⟨a1, b1⟩ := x_dig h r (p := p) (by omega)
  obtain ⟨a2, b2⟩ := x_dig h r (p := p + 1) (by omega)
  obtain ⟨a3, b3⟩ := x_dig h r (p := p + 1 + 1) (by omega)
  have y1 : ((3 : Int32) ≤ 1) = False := eq_false (by decide)
  have y2 : ((3 : Int32) ≤ 1 + 1) = False := eq_false (by decide)
  have y3 : ((3 : Int32) ≤ 1 + 1 + 1) = True := eq_true (by decide)
  have F : (((3 : Int32)).toInt - ((1 : Int32)).toInt).toNat + 1 = 3 := by decide
  have g1 := pg_lt h.2.2.2.2.2 p
  have g2 := pg_lt h.2.2.2.2.2 (p + 1)
  have g3 := pg_lt h.2.2.2.2.2 (p + 1 + 1)
  have m1 : ¬ nI (l.getD p 0 - 48) = (-1 : Int32) := fun w => (q_neM (by omega)).mp w
  have t1 : ¬ ((-1 : Int32) = -1) ↔ False := by decide
  unfold f_X6_readNumber ok_X6_readNumber
  rw [F]
  simp only [pnu]
  by_cases h1 : 48 ≤ l.getD p 0 ∧ l.getD p 0 ≤ 57
  · rw [if_pos h1] at a1
    by_cases h2 : 48 ≤ l.getD (p + 1) 0 ∧ l.getD (p + 1) 0 ≤ 57
    · rw [if_pos h2] at a2
      have m2 : ¬ nI (l.getD (p + 1) 0 - 48) = (-1 : Int32) := fun w => (q_neM (by omega)).mp w
      have e2 : nI (l.getD p 0 - 48) * 10 + nI (l.getD (p + 1) 0 - 48) = nI (10 * (10 * 0 + (l.getD p 0 - 48)) + (l.getD (p + 1) 0 - 48)) := by
        rw [q_10, pk_mul, nI_add]
        exact congrArg nI (by omega)
      have m3 : ¬ nI (10 * (10 * 0 + (l.getD p 0 - 48)) + (l.getD (p + 1) 0 - 48)) = (-1 : Int32) := fun w => (q_neM (by omega)).mp w
      by_cases h3 : 48 ≤ l.getD (p + 1 + 1) 0 ∧ l.getD (p + 1 + 1) 0 ≤ 57
      · rw [if_pos h3] at a3
        have m4 : ¬ nI (l.getD (p + 1 + 1) 0 - 48) = (-1 : Int32) := fun w => (q_neM (by omega)).mp w
        have e3 : nI (10 * (10 * 0 + (l.getD p 0 - 48)) + (l.getD (p + 1) 0 - 48)) * 10 + nI (l.getD (p + 1 + 1) 0 - 48) = nI (10 * (10 * (10 * 0 + (l.getD p 0 - 48)) + (l.getD (p + 1) 0 - 48)) + (l.getD (p + 1 + 1) 0 - 48)) := by
          rw [q_10, pk_mul, nI_add]
          exact congrArg nI (by omega)
        have n3 : ¬ p + 1 + 1 + 1 = p := by omega
        simp only [a1, lp_X6_readNumber_7, okl_lp_X6_readNumber_7, y1, y2, y3, m1, m2, m3, m4, a2, a3, b1, b2, b3, e2, e3, if_pos h1, if_pos h2, if_pos h3, n3, ite_true, ite_false, and_self]
      · rw [if_neg h3] at a3
        have n2 : ¬ p + 1 + 1 = p := by omega
        simp only [a1, lp_X6_readNumber_7, okl_lp_X6_readNumber_7, y1, y2, y3, m1, m2, m3, a2, a3, b1, b2, b3, e2, if_pos h1, if_pos h2, if_neg h3, n2, ite_true, ite_false, and_self]
    · rw [if_neg h2] at a2
      have e1 : nI (l.getD p 0 - 48) = nI (10 * 0 + (l.getD p 0 - 48)) := congrArg nI (by omega)
      have n1 : ¬ p + 1 = p := by omega
      simp only [a1, lp_X6_readNumber_7, okl_lp_X6_readNumber_7, y1, m1, a2, b1, b2, if_pos h1, if_neg h2, n1, ite_true, ite_false, and_self, ← e1]
  · rw [if_neg h1] at a1
    simp only [a1, lp_X6_readNumber_7, okl_lp_X6_readNumber_7, y1, b1, if_neg h1, ite_true, ite_false, and_self]
/-! words -/
theorem wd_len : ∀ tj, tj < 16 → (strL.getD tj []).length ≤ 5 := by decide
theorem wd_ch : ∀ tj, tj < 16 → ∀ i, i < 6 → (strL.getD tj []).getD i 0 < 128 := by decide
theorem wd_ch0 : ∀ tj, tj < 16 → ∀ i, i < (strL.getD tj []).length → 0 < (strL.getD tj []).getD i 0 := by decide
theorem wd_at {tj i : Nat} (ht : tj < 16) (hi : i < (strL.getD tj []).length) : f_J0_charAt_5068e tj (nI i) = nI ((strL.getD tj []).getD i 0) ∧ ok_J0_charAt_5068e tj (nI i) := by
  have hl := wd_len tj ht
  unfold f_J0_charAt_5068e ok_J0_charAt_5068e f_J1_charAt_3b067 ok_J1_charAt_3b067 ok_J0_checkIndex_df160 ok_J3_checkIndex_8e157
  rw [nI_clamp (by omega), if_neg (nI_pos (by omega)), if_pos (nI_lt hi (by omega))]
  exact ⟨ch_and _ (wd_ch tj ht i (by omega)), ⟨⟨trivial, trivial⟩, vp_in_nI hi (by omega), trivial⟩, trivial⟩
theorem wd_drop {w : List Nat} {i : Nat} (h : i < w.length) : w.drop i = w.getD i 0 :: w.drop (i + 1) := by
  rw [List.drop_eq_getElem_cons h, List.getD_eq_getElem?_getD, List.getElem?_eq_getElem h]; rfl
theorem x_cs_lp {sb : SbV} {l : List Nat} (h : TX sb l) (r : Int32 × Int32 × Int32) {p tj : Nat} (hp : p < 2 ^ 29) (ht : tj < 16) : ∀ (n i : Nat), i ≤ (strL.getD tj []).length → (strL.getD tj []).length < n + i →
    lp_X6_countShared_2 (nI p, r) sb tj n (nI i) = nI (i + psh (fun i => l.getD i 0) ((strL.getD tj []).drop i) (p + i)) ∧ okl_lp_X6_countShared_2 (nI p, r) sb tj n (nI i) := by
  have hl := wd_len tj ht
  intro n
  induction n with
  | zero => intro i h1 h2; omega
  | succ n ih =>
    intro i h1 h2
    show (if f_J0_length_8abf5 tj ≤ nI i then nI i else if f_X6_signAt (nI p, r) sb (nI p + nI i) = f_J0_charAt_5068e tj (nI i) then lp_X6_countShared_2 (nI p, r) sb tj n (nI i + 1) else nI i) = _ ∧
      (if f_J0_length_8abf5 tj ≤ nI i then True else ok_X6_signAt (nI p, r) sb (nI p + nI i) ∧ (ok_J0_charAt_5068e tj (nI i) ∧ (if f_X6_signAt (nI p, r) sb (nI p + nI i) = f_J0_charAt_5068e tj (nI i) then okl_lp_X6_countShared_2 (nI p, r) sb tj n (nI i + 1) else True)))
    rw [show f_J0_length_8abf5 tj = nI (strL.getD tj []).length from rfl]
    by_cases e : i = (strL.getD tj []).length
    · rw [if_pos (nI_le (by omega) (by omega)), if_pos (nI_le (by omega) (by omega)), List.drop_eq_nil_of_le (by omega)]
      exact ⟨rfl, trivial⟩
    · obtain ⟨c1, c2⟩ := wd_at ht (i := i) (by omega)
      obtain ⟨s1, s2⟩ := x_sign h (nI p, r) (p := p + i) (by omega)
      have g1 := pg_lt h.2.2.2.2.2 (p + i)
      have g2 := wd_ch tj ht i (by omega)
      rw [if_neg (nI_ge (by omega) (by omega)), if_neg (nI_ge (by omega) (by omega)), nI_add, nI_1, c1, s1, wd_drop (by omega)]
      show _ = nI (i + (if l.getD (p + i) 0 = (strL.getD tj []).getD i 0 then psh (fun i => l.getD i 0) ((strL.getD tj []).drop (i + 1)) (p + i + 1) + 1 else 0)) ∧ _
      obtain ⟨i1, i2⟩ := ih (i + 1) (by omega) (by omega)
      by_cases f : l.getD (p + i) 0 = (strL.getD tj []).getD i 0
      · rw [if_pos (congrArg nI f), if_pos (congrArg nI f), if_pos f, i1]
        refine ⟨congrArg nI ?_, s2, c2, i2⟩
        rw [show p + (i + 1) = p + i + 1 by omega]; omega
      · have f' : ¬ nI (l.getD (p + i) 0) = nI ((strL.getD tj []).getD i 0) := fun w => f ((nI_eq (by omega) (by omega)).mp w)
        rw [if_neg f', if_neg f', if_neg f]
        exact ⟨rfl, s2, c2, trivial⟩
theorem x_cs {sb : SbV} {l : List Nat} (h : TX sb l) (r : Int32 × Int32 × Int32) {p tj : Nat} (hp : p < 2 ^ 29) (ht : tj < 16) : f_X6_countShared (nI p, r) sb tj = nI (psh (fun i => l.getD i 0) (strL.getD tj []) p) ∧ ok_X6_countShared (nI p, r) sb tj := by
  have hl := wd_len tj ht
  have := x_cs_lp h r hp ht 8 0 (by omega) (by omega)
  rw [Nat.zero_add, List.drop_zero, Nat.add_zero] at this
  exact this
/-! the verb -/
def prv (g : Nat → Nat) (p : Nat) : Nat → Nat → Nat → Bool × Nat × Nat
  | 0, m, k => (false, k, p + m)
  | n + 1, m, k => if 7 < k then (false, k, p + m) else if psh g (strL.getD k []) p = (strL.getD k []).length then (true, k, p + max m (psh g (strL.getD k []) p)) else prv g p n (max m (psh g (strL.getD k []) p)) (k + 1)
theorem n_max {a b : Nat} (ha : a < 2 ^ 31) (hb : b < 2 ^ 31) : f_J9_max_7cf53 (nI a) (nI b) = nI (max a b) := by
  unfold f_J9_max_7cf53
  by_cases h : a < b
  · rw [if_pos (nI_lt h hb), show max a b = b by omega]
  · rw [if_neg (nI_nlt (by omega) ha), show max a b = a by omega]
theorem wd_of : ∀ k, k < 8 → f_X6_wordOf (nI k) = k := by decide +kernel
theorem x_verb_lp {sb : SbV} {l : List Nat} (h : TX sb l) (q : PrV) (r : Int32 × Int32) {p : Nat} (hp : p < 2 ^ 29) : ∀ (n m k : Nat), k ≤ 8 → m ≤ 5 → 8 < n + k →
    lp_X6_readVerb_7 q sb n (nI m) (nI p, nI k, r) = ((if (prv (fun i => l.getD i 0) p n m k).1 = true then 1 else 0), (nI (prv (fun i => l.getD i 0) p n m k).2.2, nI (prv (fun i => l.getD i 0) p n m k).2.1, r)) ∧ okl_lp_X6_readVerb_7 q sb n (nI m) (nI p, nI k, r) := by
  intro n
  induction n with
  | zero => intro m k h1 h2 h3; omega
  | succ n ih =>
    intro m k h1 h2 h3
    show (if (7 : Int32) < nI k then ((0 : Int32), (nI p + nI m, nI k, r)) else if f_X6_countShared (nI p, nI k, r) sb (f_X6_wordOf (nI k)) = f_J0_length_8abf5 (f_X6_wordOf (nI k)) then ((1 : Int32), (nI p + f_J9_max_7cf53 (nI m) (f_X6_countShared (nI p, nI k, r) sb (f_X6_wordOf (nI k))), nI k, r)) else lp_X6_readVerb_7 q sb n (f_J9_max_7cf53 (nI m) (f_X6_countShared (nI p, nI k, r) sb (f_X6_wordOf (nI k)))) (nI p, nI k + 1, r)) = ((if (if 7 < k then (false, k, p + m) else if psh (fun i => l.getD i 0) (strL.getD k []) p = (strL.getD k []).length then (true, k, p + max m (psh (fun i => l.getD i 0) (strL.getD k []) p)) else prv (fun i => l.getD i 0) p n (max m (psh (fun i => l.getD i 0) (strL.getD k []) p)) (k + 1) : Bool × Nat × Nat).1 = true then 1 else 0), (nI (if 7 < k then (false, k, p + m) else if psh (fun i => l.getD i 0) (strL.getD k []) p = (strL.getD k []).length then (true, k, p + max m (psh (fun i => l.getD i 0) (strL.getD k []) p)) else prv (fun i => l.getD i 0) p n (max m (psh (fun i => l.getD i 0) (strL.getD k []) p)) (k + 1) : Bool × Nat × Nat).2.2, nI (if 7 < k then (false, k, p + m) else if psh (fun i => l.getD i 0) (strL.getD k []) p = (strL.getD k []).length then (true, k, p + max m (psh (fun i => l.getD i 0) (strL.getD k []) p)) else prv (fun i => l.getD i 0) p n (max m (psh (fun i => l.getD i 0) (strL.getD k []) p)) (k + 1) : Bool × Nat × Nat).2.1, r)) ∧
      (if (7 : Int32) < nI k then True else ok_X6_countShared (nI p, nI k, r) sb (f_X6_wordOf (nI k)) ∧ (if f_X6_countShared (nI p, nI k, r) sb (f_X6_wordOf (nI k)) = f_J0_length_8abf5 (f_X6_wordOf (nI k)) then True else okl_lp_X6_readVerb_7 q sb n (f_J9_max_7cf53 (nI m) (f_X6_countShared (nI p, nI k, r) sb (f_X6_wordOf (nI k)))) (nI p, nI k + 1, r)))
    rw [q_7]
    by_cases e : 7 < k
    · rw [if_pos (nI_lt e (by omega)), if_pos (nI_lt e (by omega)), if_pos e, nI_add]
      exact ⟨rfl, trivial⟩
    · obtain ⟨c1, c2⟩ := x_cs h (nI k, r) (tj := k) hp (by omega)
      have hl := wd_len k (by omega)
      have hs := psh_le (fun i => l.getD i 0) (strL.getD k []) p
      rw [if_neg (nI_nlt (by omega) (by omega)), if_neg (nI_nlt (by omega) (by omega)), if_neg e, wd_of k (by omega), show f_J0_length_8abf5 k = nI (strL.getD k []).length from rfl, c1, n_max (by omega) (by omega), nI_1, nI_add]
      by_cases f : psh (fun i => l.getD i 0) (strL.getD k []) p = (strL.getD k []).length
      · rw [if_pos (congrArg nI f), if_pos (congrArg nI f), if_pos f]
        exact ⟨rfl, c2, trivial⟩
      · have f' : ¬ nI (psh (fun i => l.getD i 0) (strL.getD k []) p) = nI (strL.getD k []).length := fun w => f ((nI_eq (by omega) (by omega)).mp w)
        rw [if_neg f', if_neg f', if_neg f]
        obtain ⟨i1, i2⟩ := ih (max m (psh (fun i => l.getD i 0) (strL.getD k []) p)) (k + 1) (by omega) (by omega) (by omega)
        exact ⟨i1, c2, i2⟩
theorem prv_eq (g : Nat → Nat) (p : Nat) : prv g p 9 0 0 = pvb g p := by
  have e0 : psh g (strL.getD 0 []) p = if g p = 103 then psh g [105, 118, 101, 32] (p + 1) + 1 else 0 := rfl
  have e1 : psh g (strL.getD 1 []) p = if g p = 116 then (if g (p + 1) = 97 then psh g [107, 101, 32] (p + 2) + 1 else 0) + 1 else 0 := rfl
  have e2 : psh g (strL.getD 2 []) p = if g p = 116 then psh g [114, 121, 32] (p + 1) + 1 else 0 := rfl
  have e3 : psh g (strL.getD 3 []) p = if g p = 111 then psh g [112, 101, 110, 32] (p + 1) + 1 else 0 := rfl
  have e4 : psh g (strL.getD 4 []) p = if g p = 115 then psh g [104, 117, 116, 32] (p + 1) + 1 else 0 := rfl
  have e5 : psh g (strL.getD 5 []) p = if g p = 108 then psh g [105, 102, 116, 32] (p + 1) + 1 else 0 := rfl
  have e6 : psh g (strL.getD 6 []) p = if g p = 109 then psh g [111, 111, 110, 32] (p + 1) + 1 else 0 := rfl
  have e7 : psh g (strL.getD 7 []) p = if g p = 119 then psh g [97, 105, 116, 32] (p + 1) + 1 else 0 := rfl
  have t0 : psh g [114, 121, 32] (p + 1) = if g (p + 1) = 114 then psh g [121, 32] (p + 2) + 1 else 0 := rfl
  have L0 : (strL.getD 0 []).length = 5 := rfl
  have L1 : (strL.getD 1 []).length = 5 := rfl
  have L2 : (strL.getD 2 []).length = 4 := rfl
  have L3 : (strL.getD 3 []).length = 5 := rfl
  have L4 : (strL.getD 4 []).length = 5 := rfl
  have L5 : (strL.getD 5 []).length = 5 := rfl
  have L6 : (strL.getD 6 []).length = 5 := rfl
  have L7 : (strL.getD 7 []).length = 5 := rfl
  have key : ∀ s : Nat, ∀ k m : Nat, (if s = m then (true, k, p + (s + 1)) else (false, 8, p + (s + 1)) : Bool × Nat × Nat) = if s = m then (true, k, p + 1 + s) else (false, 8, p + 1 + s) := fun s k m => by
    rw [show p + (s + 1) = p + 1 + s by omega]
  have key2 : ∀ s : Nat, ∀ k m : Nat, (if s = m then (true, k, p + (s + 1 + 1)) else (false, 8, p + (s + 1 + 1)) : Bool × Nat × Nat) = if s = m then (true, k, p + 2 + s) else (false, 8, p + 2 + s) := fun s k m => by
    rw [show p + (s + 1 + 1) = p + 2 + s by omega]
  have mz : ∀ s : Nat, max 0 s = s := fun s => by omega
  have mz2 : ∀ s : Nat, max s 0 = s := fun s => by omega
  unfold pvb
  by_cases h0 : g p = 103
  · simp only [prv, e0, e1, e2, e3, e4, e5, e6, e7, L0, L1, L2, L3, L4, L5, L6, L7, h0, Nat.reduceEqDiff, Nat.reduceLT, Nat.reduceAdd, ite_true, ite_false, mz, mz2]
    exact key _ 0 4
  · by_cases h1 : g p = 116
    · by_cases ha : g (p + 1) = 97
      · simp only [prv, e0, e1, e2, e3, e4, e5, e6, e7, t0, L0, L1, L2, L3, L4, L5, L6, L7, h1, ha, Nat.reduceEqDiff, Nat.reduceLT, Nat.reduceAdd, ite_true, ite_false, mz, mz2]
        have hm : max (psh g [107, 101, 32] (p + 2) + 1 + 1) 1 = psh g [107, 101, 32] (p + 2) + 1 + 1 := by omega
        rw [hm]
        exact key2 _ 1 3
      · simp only [prv, e0, e1, e2, e3, e4, e5, e6, e7, L0, L1, L2, L3, L4, L5, L6, L7, h1, ha, Nat.reduceEqDiff, Nat.reduceLT, Nat.reduceAdd, ite_true, ite_false, mz, mz2]
        have hm : max 1 (psh g [114, 121, 32] (p + 1) + 1) = psh g [114, 121, 32] (p + 1) + 1 := by omega
        rw [hm]
        exact key _ 2 3
    · by_cases h3 : g p = 111
      · simp only [prv, e0, e1, e2, e3, e4, e5, e6, e7, L0, L1, L2, L3, L4, L5, L6, L7, h3, Nat.reduceEqDiff, Nat.reduceLT, Nat.reduceAdd, ite_true, ite_false, mz, mz2]
        exact key _ 3 4
      · by_cases h4 : g p = 115
        · simp only [prv, e0, e1, e2, e3, e4, e5, e6, e7, L0, L1, L2, L3, L4, L5, L6, L7, h4, Nat.reduceEqDiff, Nat.reduceLT, Nat.reduceAdd, ite_true, ite_false, mz, mz2]
          exact key _ 4 4
        · by_cases h5 : g p = 108
          · simp only [prv, e0, e1, e2, e3, e4, e5, e6, e7, L0, L1, L2, L3, L4, L5, L6, L7, h5, Nat.reduceEqDiff, Nat.reduceLT, Nat.reduceAdd, ite_true, ite_false, mz, mz2]
            exact key _ 5 4
          · by_cases h6 : g p = 109
            · simp only [prv, e0, e1, e2, e3, e4, e5, e6, e7, L0, L1, L2, L3, L4, L5, L6, L7, h6, Nat.reduceEqDiff, Nat.reduceLT, Nat.reduceAdd, ite_true, ite_false, mz, mz2]
              exact key _ 6 4
            · by_cases h7 : g p = 119
              · simp only [prv, e0, e1, e2, e3, e4, e5, e6, e7, L0, L1, L2, L3, L4, L5, L6, L7, h7, Nat.reduceEqDiff, Nat.reduceLT, Nat.reduceAdd, ite_true, ite_false, mz, mz2]
                exact key _ 7 4
              · simp only [prv, e0, e1, e2, e3, e4, e5, e6, e7, L0, L1, L2, L3, L4, L5, L6, L7, if_neg h0, if_neg h1, if_neg h3, if_neg h4, if_neg h5, if_neg h6, if_neg h7, Nat.reduceEqDiff, Nat.reduceLT, Nat.reduceAdd, ite_true, ite_false, mz, mz2]
                rfl
theorem x_verb {sb : SbV} {l : List Nat} (h : TX sb l) (r : Int32 × Int32 × Int32) {p : Nat} (hp : p < 2 ^ 29) : f_X6_readVerb (nI p, r) sb = ((if (pvb (fun i => l.getD i 0) p).1 = true then 1 else 0), (nI (pvb (fun i => l.getD i 0) p).2.2, nI (pvb (fun i => l.getD i 0) p).2.1, r.2)) ∧ ok_X6_readVerb (nI p, r) sb := by
  have := x_verb_lp h (nI p, r) r.2 hp 9 0 0 (by decide) (by decide) (by decide)
  rw [prv_eq] at this
  exact this
/-! the arguments -/
theorem pnu_b (g : Nat → Nat) : ∀ (k a p : Nat), (pnu g k a p).1 + 1 ≤ (a + 1) * 10 ^ k
  | 0, a, p => by show a + 1 ≤ (a + 1) * 1; omega
  | k + 1, a, p => by
    show (if 48 ≤ g p ∧ g p ≤ 57 then pnu g k (10 * a + (g p - 48)) (p + 1) else (a, p)).1 + 1 ≤ (a + 1) * 10 ^ (k + 1)
    split
    · refine Nat.le_trans (pnu_b g k (10 * a + (g p - 48)) (p + 1)) ?_
      rw [Nat.pow_succ, Nat.mul_comm (10 ^ k) 10, ← Nat.mul_assoc]
      exact Nat.mul_le_mul_right _ (by omega)
    · exact Nat.le_mul_of_pos_right _ (Nat.pow_pos (by decide))
theorem x_dig1 {sb : SbV} {l : List Nat} (h : TX sb l) (r : Int32 × Int32 × Int32) {p : Nat} (hp : p < 2 ^ 30) : f_X6_readDigit (nI p, r) sb = (if (pnu (fun i => l.getD i 0) 1 0 p).2 = p then (-1, (nI p, r)) else (nI (pnu (fun i => l.getD i 0) 1 0 p).1, (nI (pnu (fun i => l.getD i 0) 1 0 p).2, r))) ∧ ok_X6_readDigit (nI p, r) sb := by
  obtain ⟨a, b⟩ := x_dig h r hp
  refine ⟨a.trans ?_, b⟩
  have ep : pnu (fun i => l.getD i 0) 1 0 p = (if 48 ≤ l.getD p 0 ∧ l.getD p 0 ≤ 57 then (10 * 0 + (l.getD p 0 - 48), p + 1) else (0, p)) := rfl
  by_cases e : 48 ≤ l.getD p 0 ∧ l.getD p 0 ≤ 57
  · have n : ¬ p + 1 = p := by omega
    rw [ep.trans (if_pos e), if_pos e, if_neg n]
    exact congrArg (fun v => (nI v, nI (p + 1), r)) (by omega)
  · rw [ep.trans (if_neg e), if_neg e, if_pos rfl]
theorem x_args {sb : SbV} {l : List Nat} (h : TX sb l) (r : Int32 × Int32) {p k : Nat} (hp : p < 2 ^ 28) (hk : k < 8) : (∃ q' : PrV, f_X6_readArguments (nI p, nI k, r) sb = ((if (par (fun i => l.getD i 0) k p).1 = true then 1 else 0), q') ∧ q'.1 = nI (par (fun i => l.getD i 0) k p).2.2.2 ∧ ((par (fun i => l.getD i 0) k p).1 = true → q' = (nI (par (fun i => l.getD i 0) k p).2.2.2, nI k, nI (par (fun i => l.getD i 0) k p).2.1, nI (par (fun i => l.getD i 0) k p).2.2.1))) ∧ ok_X6_readArguments (nI p, nI k, r) sb := by
  have y0 : ((1 : Int32) = 0) = False := eq_false (by decide)
  have ff : ((false : Bool) = true) = False := eq_false (by decide)
  have a1 := pnu_pos (fun i => l.getD i 0) 1 0 p
  have v1 := pnu_b (fun i => l.getD i 0) 1 0 p
  have v2 := pnu_b (fun i => l.getD i 0) 1 0 (pnu (fun i => l.getD i 0) 1 0 p).2
  have v3 := pnu_b (fun i => l.getD i 0) 3 0 p
  have v4 := pnu_b (fun i => l.getD i 0) 3 0 ((pnu (fun i => l.getD i 0) 1 0 p).2 + 1)
  have w1 : (nI (pnu (fun i => l.getD i 0) 1 0 p).1 = (-1 : Int32)) = False := eq_false (fun w => (q_neM (by omega)).mp w)
  have w2 : (nI (pnu (fun i => l.getD i 0) 1 0 (pnu (fun i => l.getD i 0) 1 0 p).2).1 = (-1 : Int32)) = False := eq_false (fun w => (q_neM (by omega)).mp w)
  have w3 : (nI (pnu (fun i => l.getD i 0) 3 0 p).1 = (-1 : Int32)) = False := eq_false (fun w => (q_neM (by omega)).mp w)
  have w4 : (nI (pnu (fun i => l.getD i 0) 3 0 ((pnu (fun i => l.getD i 0) 1 0 p).2 + 1)).1 = (-1 : Int32)) = False := eq_false (fun w => (q_neM (by omega)).mp w)
  obtain ⟨n1, o1⟩ := x_num h (nI k, r) (p := p) (by omega)
  obtain ⟨n2, o2⟩ := x_dig1 h (nI k, r) (p := p) (by omega)
  obtain ⟨n3, o3⟩ := x_dig1 h (nI k, nI (pnu (fun i => l.getD i 0) 1 0 p).1, 0) (p := (pnu (fun i => l.getD i 0) 1 0 p).2) (by omega)
  obtain ⟨n4, o4⟩ := x_rs h (nI k, nI (pnu (fun i => l.getD i 0) 1 0 p).1, 0) (p := (pnu (fun i => l.getD i 0) 1 0 p).2) (c := 32) (by omega) (by decide)
  obtain ⟨n5, o5⟩ := x_num h (nI k, nI (pnu (fun i => l.getD i 0) 1 0 p).1, 0) (p := (pnu (fun i => l.getD i 0) 1 0 p).2 + 1) (by omega)
  unfold f_X6_readArguments ok_X6_readArguments par
  by_cases k5 : 5 < k
  · have c5 : ((5 : Int32) < nI k) = True := eq_true (nI_lt (a := 5) k5 (by omega))
    have c2 : ((2 : Int32) < nI k) = True := eq_true (nI_lt (a := 2) (by omega) (by omega))
    rw [if_neg (show ¬ k ≤ 2 by omega), if_neg (show ¬ k ≤ 5 by omega)]
    unfold parN
    by_cases e : (pnu (fun i => l.getD i 0) 3 0 p).2 = p
    · rw [if_pos e] at n1
      simp only [c5, c2, n1, o1, e, ite_true, ite_false, ff, and_self, and_true]
      exact ⟨_, rfl, rfl, fun w => w.elim⟩
    · rw [if_neg e] at n1
      simp only [c5, c2, n1, o1, e, w3, ite_true, ite_false, and_self, and_true]
      exact ⟨_, rfl, rfl, fun _ => rfl⟩
  · have c5 : ((5 : Int32) < nI k) = False := eq_false (nI_nlt (a := 5) (by omega) (by omega))
    by_cases k2 : 2 < k
    · have c2 : ((2 : Int32) < nI k) = True := eq_true (nI_lt (a := 2) (by omega) (by omega))
      rw [if_neg (show ¬ k ≤ 2 by omega), if_pos (show k ≤ 5 by omega)]
      unfold parD
      by_cases e : (pnu (fun i => l.getD i 0) 1 0 p).2 = p
      · rw [if_pos e] at n2
        simp only [c5, c2, n2, o2, e, ite_true, ite_false, ff, and_self, and_true]
        exact ⟨_, rfl, rfl, fun w => w.elim⟩
      · rw [if_neg e] at n2
        by_cases f : l.getD (pnu (fun i => l.getD i 0) 1 0 p).2 0 = 32
        · rw [if_pos f] at n4
          by_cases t : (pnu (fun i => l.getD i 0) 3 0 ((pnu (fun i => l.getD i 0) 1 0 p).2 + 1)).2 = (pnu (fun i => l.getD i 0) 1 0 p).2 + 1
          · rw [if_pos t] at n5
            simp only [c5, c2, n2, o2, e, w1, q_32, n4, o4, f, y0, n5, o5, t, ite_true, ite_false, ff, and_self, and_true]
            exact ⟨_, rfl, rfl, fun w => w.elim⟩
          · rw [if_neg t] at n5
            simp only [c5, c2, n2, o2, e, w1, q_32, n4, o4, f, y0, n5, o5, t, w4, ite_true, ite_false, and_self, and_true]
            exact ⟨_, rfl, rfl, fun _ => rfl⟩
        · rw [if_neg f] at n4
          simp only [c5, c2, n2, o2, e, w1, q_32, n4, o4, f, ite_true, ite_false, ff, and_self, and_true]
          exact ⟨_, rfl, rfl, fun w => w.elim⟩
    · have c2 : ((2 : Int32) < nI k) = False := eq_false (nI_nlt (a := 2) (by omega) (by omega))
      rw [if_pos (show k ≤ 2 by omega)]
      unfold parP
      by_cases e : (pnu (fun i => l.getD i 0) 1 0 p).2 = p
      · rw [if_pos e] at n2
        simp only [c5, c2, n2, o2, e, ite_true, ite_false, ff, and_self, and_true]
        exact ⟨_, rfl, rfl, fun w => w.elim⟩
      · rw [if_neg e] at n2
        by_cases t : (pnu (fun i => l.getD i 0) 1 0 (pnu (fun i => l.getD i 0) 1 0 p).2).2 = (pnu (fun i => l.getD i 0) 1 0 p).2
        · rw [if_pos t] at n3
          simp only [c5, c2, n2, o2, e, w1, n3, o3, t, ite_true, ite_false, ff, and_self, and_true]
          exact ⟨_, rfl, rfl, fun w => w.elim⟩
        · rw [if_neg t] at n3
          simp only [c5, c2, n2, o2, e, w1, n3, o3, t, w2, ite_true, ite_false, and_self, and_true]
          exact ⟨_, rfl, rfl, fun _ => rfl⟩
/-- one command, as the class reads it -/
theorem x_cmd {sb : SbV} {l : List Nat} (h : TX sb l) (r : Int32 × Int32 × Int32) {p : Nat} (hp : p < 2 ^ 27) : (∃ q' : PrV, f_X6_readCommand (nI p, r) sb = ((if (pcm (fun i => l.getD i 0) p).1 = true then 1 else 0), q') ∧ q'.1 = nI (pcm (fun i => l.getD i 0) p).2.2.2.2 ∧ ((pcm (fun i => l.getD i 0) p).1 = true → q' = (nI (pcm (fun i => l.getD i 0) p).2.2.2.2, nI (pcm (fun i => l.getD i 0) p).2.1, nI (pcm (fun i => l.getD i 0) p).2.2.1, nI (pcm (fun i => l.getD i 0) p).2.2.2.1))) ∧ ok_X6_readCommand (nI p, r) sb := by
  have y0 : ((1 : Int32) = 0) = False := eq_false (by decide)
  obtain ⟨a1, a2, a3⟩ := pvb_pos (fun i => l.getD i 0) p
  obtain ⟨n1, o1⟩ := x_verb h r (p := p) (by omega)
  unfold f_X6_readCommand ok_X6_readCommand pcm pwa
  by_cases e : (pvb (fun i => l.getD i 0) p).1 = true
  · rw [if_pos e] at n1
    obtain ⟨⟨q', n2, n3, n4⟩, o2⟩ := x_args h r.2 (p := (pvb (fun i => l.getD i 0) p).2.2) (k := (pvb (fun i => l.getD i 0) p).2.1) (by omega) (a3 e).1
    simp only [n1, o1, e, y0, n2, o2, ite_true, ite_false, and_self, and_true]
    by_cases f : (par (fun i => l.getD i 0) (pvb (fun i => l.getD i 0) p).2.1 (pvb (fun i => l.getD i 0) p).2.2).1 = true
    · simp only [f, y0, ite_true, ite_false]
      exact ⟨_, rfl, n3, fun _ => n4 f⟩
    · simp only [f, ite_true, ite_false]
      exact ⟨_, rfl, n3, fun w => absurd w Bool.false_ne_true⟩
  · rw [if_neg e] at n1
    simp only [n1, o1, e, ite_true, ite_false, and_self, and_true]
    exact ⟨_, rfl, rfl, fun w => absurd w Bool.false_ne_true⟩
