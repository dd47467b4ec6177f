/-! ===== the small functions of the JDK, in numbers ===== -/
theorem i32_neg (x : Int32) : x < 0 ↔ x.toBitVec.msb = true := by
  rw [BitVec.msb_eq_toInt, decide_eq_true_iff, Int32.lt_iff_toInt_lt]
  rfl
theorem i32_xneg (x y : Int32) : x ^^^ y < 0 ↔ ¬ (x < 0 ↔ y < 0) := by
  rw [i32_neg, i32_neg x, i32_neg y, Int32.toBitVec_xor, BitVec.msb_xor]
  cases x.toBitVec.msb <;> cases y.toBitVec.msb <;> decide
theorem i32_lo (x : Int32) : -2147483648 ≤ x.toInt := Int32.le_toInt x
theorem i32_hi (x : Int32) : x.toInt < 2147483648 := Int32.toInt_lt x
theorem i32_div {x y : Int32} (hy : 0 < y.toInt) : (x / y).toInt = x.toInt.tdiv y.toInt := by
  have h1 := i32_lo x
  have h2 := i32_hi x
  rw [Int32.toInt_div]
  have h3 : x.toInt.tdiv y.toInt ≤ 2147483647 ∧ -2147483648 ≤ x.toInt.tdiv y.toInt := by
    rcases Int.le_total 0 x.toInt with h | h
    · rw [Int.tdiv_eq_ediv_of_nonneg h]
      have := Int.ediv_le_self y.toInt h
      have := Int.ediv_nonneg h (Int.le_of_lt hy)
      omega
    · have e : x.toInt.tdiv y.toInt = -((-x.toInt) / y.toInt) := by rw [← Int.tdiv_eq_ediv_of_nonneg (by omega : 0 ≤ -x.toInt), Int.neg_tdiv, Int.neg_neg]
      have := Int.ediv_le_self y.toInt (by omega : 0 ≤ -x.toInt)
      have := Int.ediv_nonneg (by omega : 0 ≤ -x.toInt) (Int.le_of_lt hy)
      omega
  rw [Int.bmod_eq_of_le (by omega) (by omega)]
theorem i32_rem {x y : Int32} (hy : 0 < y.toInt) : (x - x / y * y).toInt = x.toInt.tmod y.toInt := by
  have h1 := i32_lo x
  have h2 := i32_hi x
  have h3 := i32_hi y
  have e := Int.tmod_add_mul_tdiv x.toInt y.toInt
  have hb : x.toInt.tmod y.toInt < y.toInt := Int.tmod_lt_of_pos _ hy
  have hb2 : -y.toInt < x.toInt.tmod y.toInt := by
    have := Int.lt_tmod_of_pos x.toInt hy
    omega
  rw [Int32.toInt_sub, Int32.toInt_mul, i32_div hy]
  have e2 : x.toInt - (x.toInt.tdiv y.toInt * y.toInt) = x.toInt.tmod y.toInt := by rw [Int.mul_comm]; omega
  rw [Int.sub_bmod_bmod, e2, Int.bmod_eq_of_le (by omega) (by omega)]
theorem fmod_int {x y : Int32} (hy : 0 < y.toInt) : (f_J9_floorMod_7cf53 x y).toInt = x.toInt % y.toInt := by
  have hr := i32_rem (x := x) hy
  have hyn : ¬ y < 0 := fun h => by have := Int32.lt_iff_toInt_lt.mp h; rw [show (0 : Int32).toInt = 0 from rfl] at this; omega
  have hi := i32_hi y
  have hm : x.toInt % y.toInt = if 0 ≤ x.toInt ∨ x.toInt.tmod y.toInt = 0 then x.toInt.tmod y.toInt else x.toInt.tmod y.toInt + y.toInt := by
    rw [Int.emod_eq_tmod]
    simp only [Int.dvd_iff_tmod_eq_zero]
    split <;> rename_i h
    · simp
    · rw [Int.natAbs_of_nonneg (by omega)]
  unfold f_J9_floorMod_7cf53
  simp only [← Int32.not_lt, i32_xneg, hyn, iff_false]
  have hz : (x - x / y * y = 0) ↔ x.toInt.tmod y.toInt = 0 := by
    rw [← hr, ← Int32.toInt_inj]; rfl
  have hx0 : x < 0 ↔ ¬ 0 ≤ x.toInt := by rw [Int32.lt_iff_toInt_lt, show (0 : Int32).toInt = 0 from rfl]; omega
  rw [hm]
  by_cases h0 : 0 ≤ x.toInt
  · rw [if_pos (by rw [hx0]; simp [h0]), if_pos (Or.inl h0), hr]
  · rw [if_neg (by rw [hx0]; simp [h0])]
    by_cases h1 : x.toInt.tmod y.toInt = 0
    · rw [if_pos (hz.mpr h1), if_pos (Or.inr h1), hr]
    · rw [if_neg (fun h => h1 (hz.mp h)), if_neg (fun h => h.elim h0 h1), Int32.toInt_add, hr]
      have hb : x.toInt.tmod y.toInt < y.toInt := Int.tmod_lt_of_pos _ hy
      have hb2 := Int.lt_tmod_of_pos x.toInt hy
      have hs2 : x.toInt.tmod y.toInt ≤ 0 := by
        have := Int.tmod_nonneg y.toInt (by omega : 0 ≤ -x.toInt)
        rw [Int.neg_tmod] at this
        omega
      clear hm
      rw [Int.bmod_eq_of_le (by omega) (by omega)]
theorem fdiv_int {x y : Int32} (hy : 0 < y.toInt) : (f_J9_floorDiv_7cf53 x y).toInt = x.toInt / y.toInt := by
  have hr := i32_rem (x := x) hy
  have hd := i32_div (x := x) hy
  have hyn : ¬ y < 0 := fun h => by have := Int32.lt_iff_toInt_lt.mp h; rw [show (0 : Int32).toInt = 0 from rfl] at this; omega
  have hi := i32_hi y
  have h1 := i32_lo x
  have h2 := i32_hi x
  have e := Int.tmod_add_mul_tdiv x.toInt y.toInt
  have e2 := Int.emod_add_mul_ediv x.toInt y.toInt
  have hb : x.toInt.tmod y.toInt < y.toInt := Int.tmod_lt_of_pos _ hy
  have hb2 := Int.lt_tmod_of_pos x.toInt hy
  have hx0 : x < 0 ↔ ¬ 0 ≤ x.toInt := by rw [Int32.lt_iff_toInt_lt, show (0 : Int32).toInt = 0 from rfl]; omega
  have hz : (x / y * y = x) ↔ x.toInt.tmod y.toInt = 0 := by
    rw [← Int32.toInt_inj, Int32.toInt_mul, hd]
    have e3 : x.toInt.tdiv y.toInt * y.toInt = x.toInt - x.toInt.tmod y.toInt := by rw [Int.mul_comm]; omega
    rw [e3]
    have hs : 0 ≤ x.toInt → 0 ≤ x.toInt.tmod y.toInt := fun h => Int.tmod_nonneg _ h
    have hs2 : ¬ 0 ≤ x.toInt → x.toInt.tmod y.toInt ≤ 0 := fun h => by
      have := Int.tmod_nonneg y.toInt (by omega : 0 ≤ -x.toInt)
      rw [Int.neg_tmod] at this
      omega
    have hs3 : 0 ≤ x.toInt → x.toInt.tmod y.toInt ≤ x.toInt := fun h => by have := Int.mul_nonneg (Int.le_of_lt hy) (Int.tdiv_nonneg h (Int.le_of_lt hy)); omega
    rw [Int.bmod_eq_of_le (by omega) (by omega)]
    omega
  unfold f_J9_floorDiv_7cf53
  simp only [← Int32.not_lt, i32_xneg, hyn, iff_false]
  by_cases h0 : 0 ≤ x.toInt
  · rw [if_pos (by rw [hx0]; simp [h0]), hd, Int.tdiv_eq_ediv_of_nonneg h0]
  · rw [if_neg (by rw [hx0]; simp [h0])]
    have q := Int.tdiv_eq_ediv (a := x.toInt) (b := y.toInt)
    by_cases h3 : x.toInt.tmod y.toInt = 0
    · rw [if_pos (hz.mpr h3), hd, q]
      have : y.toInt ∣ x.toInt := Int.dvd_iff_tmod_eq_zero.mpr h3
      simp [this]
    · rw [if_neg (fun h => h3 (hz.mp h)), Int32.toInt_sub, hd, q]
      have h4 : ¬ y.toInt ∣ x.toInt := fun h => h3 (Int.dvd_iff_tmod_eq_zero.mp h)
      have h5 : y.toInt.sign = 1 := Int.sign_eq_one_of_pos hy
      rw [if_neg (by simp [h0, h4]), h5, show (1 : Int32).toInt = 1 from rfl, Int.add_sub_cancel]
      have := Int.ediv_nonneg_iff_of_pos hy (a := x.toInt)
      have h7 : -2147483648 ≤ x.toInt / y.toInt := by
        have := Int.ediv_mul_le x.toInt (by omega : y.toInt ≠ 0)
        have h8 := Int.lt_ediv_add_one_mul_self x.toInt hy
        by_cases h9 : -2147483648 ≤ x.toInt / y.toInt
        · exact h9
        · exfalso
          have h10 : (x.toInt / y.toInt + 1) * y.toInt ≤ (-2147483648) * y.toInt := Int.mul_le_mul_of_nonneg_right (by omega) (by omega)
          have h11 : (-2147483648 : Int) * y.toInt ≤ -2147483648 := by omega
          omega
      rw [Int.bmod_eq_of_le (by omega) (by omega)]
theorem fmod_in {x y : Int32} (hy : 0 < y.toInt) : 0 ≤ (f_J9_floorMod_7cf53 x y).toInt ∧ (f_J9_floorMod_7cf53 x y).toInt < y.toInt := by
  rw [fmod_int hy]
  exact ⟨Int.emod_nonneg _ (by omega), Int.emod_lt_of_pos _ hy⟩
/-! the loop that looks day by day -/
def lkI (y x : Int32) (n : Nat) : Prop := 0 ≤ y.toInt ∧ y.toInt < 24 ∧ 0 ≤ x.toInt ∧ x.toInt + n = 44 ∧ 0 < n
theorem lkI_0 {y x : Int32} : ¬ lkI y x 0 := fun h => absurd h.2.2.2.2 (Nat.lt_irrefl 0)
theorem lkI_c {y x : Int32} (h1 : 0 ≤ y.toInt) (h2 : y.toInt < 24) (h3 : 0 ≤ x.toInt) (h4 : x.toInt ≤ 44) : (x * (24 : Int32) - y).toInt = x.toInt * 24 - y.toInt := by
  rw [Int32.toInt_sub, Int32.toInt_mul, show (24 : Int32).toInt = 24 from rfl, Int.bmod_eq_of_le (n := x.toInt * 24) (by omega) (by omega), Int.bmod_eq_of_le (by omega) (by omega)]
theorem lkI_s {y x : Int32} {n : Nat} (h : ¬ (1000 : Int32) < (x * (24 : Int32)) - y) (hu : lkI y x (n + 1)) : lkI y (x + 1) n := by
  obtain ⟨h1, h2, h3, h4, -⟩ := hu
  rw [Int32.lt_iff_toInt_lt, lkI_c h1 h2 h3 (by omega), show (1000 : Int32).toInt = 1000 from rfl] at h
  have e : (x + 1).toInt = x.toInt + 1 := by rw [Int32.toInt_add, show (1 : Int32).toInt = 1 from rfl, Int.bmod_eq_of_le (by omega) (by omega)]
  exact ⟨h1, h2, by rw [e]; omega, by rw [e]; omega, by omega⟩
