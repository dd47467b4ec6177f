/-! ===== the pure part: numbers ===== -/
theorem q_0 : (0 : Int32) = nI 0 := rfl
theorem q_1 : (1 : Int32) = nI 1 := rfl
theorem q_2 : (2 : Int32) = nI 2 := rfl
theorem q_3 : (3 : Int32) = nI 3 := rfl
theorem q_4 : (4 : Int32) = nI 4 := rfl
theorem q_5 : (5 : Int32) = nI 5 := rfl
theorem q_6 : (6 : Int32) = nI 6 := rfl
theorem q_7 : (7 : Int32) = nI 7 := rfl
theorem q_8 : (8 : Int32) = nI 8 := rfl
theorem q_9 : (9 : Int32) = nI 9 := rfl
theorem q_10 : (10 : Int32) = nI 10 := rfl
theorem q_11 : (11 : Int32) = nI 11 := rfl
theorem q_12 : (12 : Int32) = nI 12 := rfl
theorem q_13 : (13 : Int32) = nI 13 := rfl
theorem q_23 : (23 : Int32) = nI 23 := rfl
theorem q_24 : (24 : Int32) = nI 24 := rfl
theorem q_30 : (30 : Int32) = nI 30 := rfl
theorem q_31 : (31 : Int32) = nI 31 := rfl
theorem q_32 : (32 : Int32) = nI 32 := rfl
theorem q_40 : (40 : Int32) = nI 40 := rfl
theorem q_43 : (43 : Int32) = nI 43 := rfl
theorem q_44 : (44 : Int32) = nI 44 := rfl
theorem q_45 : (45 : Int32) = nI 45 := rfl
theorem q_48 : (48 : Int32) = nI 48 := rfl
theorem q_55 : (55 : Int32) = nI 55 := rfl
theorem q_56 : (56 : Int32) = nI 56 := rfl
theorem q_57 : (57 : Int32) = nI 57 := rfl
theorem q_59 : (59 : Int32) = nI 59 := rfl
theorem q_60 : (60 : Int32) = nI 60 := rfl
theorem q_61 : (61 : Int32) = nI 61 := rfl
theorem q_62 : (62 : Int32) = nI 62 := rfl
theorem q_91 : (91 : Int32) = nI 91 := rfl
theorem q_92 : (92 : Int32) = nI 92 := rfl
theorem q_93 : (93 : Int32) = nI 93 := rfl
theorem q_121 : (121 : Int32) = nI 121 := rfl
theorem q_126 : (126 : Int32) = nI 126 := rfl
theorem q_240 : (240 : Int32) = nI 240 := rfl
theorem q_249 : (249 : Int32) = nI 249 := rfl
theorem q_255 : (255 : Int32) = nI 255 := rfl
theorem q_999 : (999 : Int32) = nI 999 := rfl
theorem q_1000 : (1000 : Int32) = nI 1000 := rfl
theorem q_1992 : (1992 : Int32) = nI 1992 := rfl
theorem q_9999 : (9999 : Int32) = nI 9999 := rfl
theorem q_m1 : (-1 : Int32) = -nI 1 := rfl
theorem q_neM {j : Nat} (h : j < 2 ^ 31) : nI j = (-1 : Int32) ↔ False := by
  refine ⟨fun e => ?_, False.elim⟩
  have h1 := congrArg Int32.toInt e
  rw [nI_toInt h, show (-1 : Int32).toInt = -1 from rfl] at h1
  omega
theorem q_pred {n : Nat} (h : n < 2 ^ 31) (x : Int32) : nI n - 1 < x ↔ nI n ≤ x := by
  have h1 := i32_lo x
  have h2 := i32_hi x
  rw [Int32.lt_iff_toInt_lt, Int32.le_iff_toInt_le, Int32.toInt_sub, nI_toInt h, show (1 : Int32).toInt = 1 from rfl, Int.bmod_eq_of_le (by omega) (by omega)]
  omega
/-- an argument: below 0, past n, or one of the first n numbers -/
theorem q_arg (x : Int32) {n : Nat} (hn : n < 2 ^ 31) : x < 0 ∨ nI n ≤ x ∨ ∃ j : Nat, j < n ∧ x = nI j := pk_ix x hn
theorem n_fd {t : Nat} (h : t < 2 ^ 31) : f_J9_floorDiv_7cf53 (nI t) (24 : Int32) = nI (t / 24) := by
  apply Int32.toInt_inj.mp
  rw [fdiv_int (by decide), nI_toInt h, nI_toInt (by omega)]
  show (t : Int) / 24 = ((t / 24 : Nat) : Int)
  omega
theorem n_fm {t m : Nat} (h : t < 2 ^ 31) (h0 : 0 < m) (hm : m < 2 ^ 31) : f_J9_floorMod_7cf53 (nI t) (nI m) = nI (t % m) := by
  have h1 : t % m < m := Nat.mod_lt _ h0
  apply Int32.toInt_inj.mp
  rw [fmod_int (by rw [nI_toInt hm]; omega), nI_toInt h, nI_toInt hm, nI_toInt (by omega)]
  rfl
theorem n_min {a b : Nat} (ha : a < 2 ^ 31) (hb : b < 2 ^ 31) : f_J9_min_7cf53 (nI a) (nI b) = nI (min a b) := by
  unfold f_J9_min_7cf53
  simp only [nI_ltI hb ha]
  split <;> congr 1 <;> omega
theorem n_div {a d : Nat} (ha : a < 2 ^ 31) (h0 : 0 < d) (hd : d < 2 ^ 31) : nI a / nI d = nI (a / d) := pk_div ha h0 hd
theorem n_rem {a d : Nat} (ha : a < 2 ^ 31) (h0 : 0 < d) (hd : d < 2 ^ 31) : nI a - nI a / nI d * nI d = nI (a % d) := pk_rem ha h0 hd
theorem n_at {n j : Nat} (f : Nat → Int32) (h : j < n) (hn : n < 2 ^ 31) : f_X7_at n f (nI j) = f j := by
  unfold f_X7_at
  rw [if_neg (nI_pos (by omega)), if_pos (nI_lt h hn), nI_clamp (by omega)]
theorem n_put {n j : Nat} (f : Nat → Int32) (v : Int32) (h : j < n) (hn : n < 2 ^ 31) : f_X7_put n f (nI j) v = upd f j v := by
  unfold f_X7_put
  rw [if_neg (nI_pos (by omega)), if_neg (nI_ge h hn), nI_clamp (by omega)]
theorem n_inc {n j : Nat} (f : Nat → Int32) (h : j < n) (hn : n < 2 ^ 31) : f_X7_increase n f (nI j) = upd f j (f j + 1) := by
  unfold f_X7_increase
  rw [n_at f h hn]
  exact n_put f _ h hn
theorem upd_eq (f : Nat → Int32) (k : Nat) (x : Int32) : upd f k x k = x := by simp [upd]
theorem upd_ne (f : Nat → Int32) {k j : Nat} (x : Int32) (h : j ≠ k) : upd f k x j = f j := by simp [upd, h]
theorem n_copy_lp {n : Nat} (f g : Nat → Int32) (hn : n < 2 ^ 31 - 1) : ∀ (k i : Nat) (gL : Nat → Int32), i + k = n + 1 → lp_X7_copy_11 n f n g k (nI i) gL = fun j => if k = 0 then g j else if i ≤ j ∧ j < n then f j else gL j := by
  intro k
  induction k with
  | zero => intro i gL h; rfl
  | succ k ih =>
    intro i gL h
    show (if nI n ≤ nI i then gL else if nI n ≤ nI i then gL else lp_X7_copy_11 n f n g k (nI i + 1) (upd gL (nI i).toNatClampNeg (f (nI i).toNatClampNeg))) = _
    by_cases hi : n ≤ i
    · rw [if_pos (nI_le hi (by omega))]
      funext j
      rw [if_neg (Nat.succ_ne_zero k), if_neg (by omega)]
    · rw [if_neg (nI_ge (by omega) (by omega)), if_neg (nI_ge (by omega) (by omega)), nI_1, nI_clamp (by omega), ih (i + 1) _ (by omega)]
      funext j
      rw [if_neg (by omega : ¬ k = 0), if_neg (Nat.succ_ne_zero k)]
      by_cases hj : j = i
      · subst hj
        rw [if_neg (by omega), if_pos (by omega), upd_eq]
      · rw [upd_ne _ _ hj]
        by_cases h2 : i ≤ j ∧ j < n
        · rw [if_pos (by omega), if_pos h2]
        · rw [if_neg (by omega), if_neg h2]
theorem n_copy {n : Nat} (f g : Nat → Int32) (hn : n < 2 ^ 31 - 1) : f_X7_copy n f n g = fun j => if j < n then f j else g j := by
  unfold f_X7_copy
  rw [nI_toInt (by omega), show (0 : Int32).toInt = 0 from rfl, show ((n : Int) - 0).toNat + 1 = n + 1 by omega, show (0 : Int32) = nI 0 from rfl, n_copy_lp f g hn (n + 1) 0 g (by omega)]
  funext j
  rw [if_neg (Nat.succ_ne_zero n)]
  simp
theorem n_bits : ∀ a, a < 256 → f_J6_bitCount_0f7a4 (nI a) = f_X10_bits (nI a) := by decide +kernel
