/-! ===== the values of the objects, and their cells ===== -/
abbrev DoV : Type := Int32 × (Nat → Int32) × (Nat → Int32) × (Nat → Int32) × (Nat → Int32)
abbrev ExV : Type := Int32 × (Nat → Int32) × (Nat → Int32) × (Nat → Int32)
abbrev PeV : Type := Int32 × (Nat → Int32) × (Nat → Int32)
abbrev AuV : Type := Int32 × (Nat → Int32) × (Nat → Int32) × (Nat → Int32) × (Nat → Int32) × (Nat → Int32) × (Nat → Int32)
abbrev StV : Type := Int32 × Int32 × DoV × ExV × PeV × AuV
abbrev cArr (G : GG) (a n : Nat) (f : Nat → Int32) : Nat × va_E := (a, .inl (G.2.1 0, n, .inl f))
abbrev wDo (G : GG) (h0 h1 h2 h3 h4 : Nat) (d : DoV) : va_W := [(h0, .inr (6, [.int d.1, .ref h1, .ref h2, .ref h3, .ref h4])), cArr G h1 8 d.2.1, cArr G h2 8 d.2.2.1, cArr G h3 8 d.2.2.2.1, cArr G h4 8 d.2.2.2.2]
abbrev wEx (G : GG) (h0 h1 h2 h3 : Nat) (d : ExV) : va_W := [(h0, .inr (5, [.int d.1, .ref h1, .ref h2, .ref h3])), cArr G h1 12 d.2.1, cArr G h2 12 d.2.2.1, cArr G h3 12 d.2.2.2]
abbrev wPe (G : GG) (h0 h1 h2 : Nat) (d : PeV) : va_W := [(h0, .inr (8, [.int d.1, .ref h1, .ref h2])), cArr G h1 6 d.2.1, cArr G h2 6 d.2.2]
abbrev wAu (G : GG) (h0 h1 h2 h3 h4 h5 h6 : Nat) (d : AuV) : va_W := [(h0, .inr (4, [.int d.1, .ref h1, .ref h2, .ref h3, .ref h4, .ref h5, .ref h6])), cArr G h1 64 d.2.1, cArr G h2 64 d.2.2.1, cArr G h3 5 d.2.2.2.1, cArr G h4 10 d.2.2.2.2.1, cArr G h5 10 d.2.2.2.2.2.1, cArr G h6 10 d.2.2.2.2.2.2]
abbrev wSt0 (a : Nat → Nat) (t c : Int32) : va_W := [(a 0, .inr (10, [.int t, .int c, .ref (a 1), .ref (a 6), .ref (a 10), .ref (a 13)]))]
abbrev wSt (G : GG) (a : Nat → Nat) (v : StV) : va_W := fl [wSt0 a v.1 v.2.1, wDo G (a 1) (a 2) (a 3) (a 4) (a 5) v.2.2.1, wEx G (a 6) (a 7) (a 8) (a 9) v.2.2.2.1, wPe G (a 10) (a 11) (a 12) v.2.2.2.2.1, wAu G (a 13) (a 14) (a 15) (a 16) (a 17) (a 18) (a 19) v.2.2.2.2.2]
theorem up_in {x : Int32} {n : Nat} (h0 : ¬ x < 0) (h : ¬ nI n ≤ x) (hn : n < 2 ^ 31) : vp_in x n := by
  obtain ⟨j, h1, rfl⟩ := nI_of h0
  have h2 : j < n := Nat.lt_of_not_le fun q => h (nI_le q h1)
  exact vp_in_nI h2 hn
/-- a loop that counts up to b: what is left falls -/
def upI (i b : Int32) (n : Nat) : Prop := b.toInt - i.toInt < n ∧ 0 < n
theorem upI_0 {i b : Int32} : ¬ upI i b 0 := fun h => absurd h.2 (Nat.lt_irrefl 0)
theorem i32_succ {i b : Int32} (h : i < b) : (i + 1).toInt = i.toInt + 1 := by
  have h1 := Int32.lt_iff_toInt_lt.mp h
  have h2 := Int32.toInt_lt b
  have h3 := Int32.le_toInt i
  rw [Int32.toInt_add, show (1 : Int32).toInt = 1 from rfl, Int.bmod_eq_of_le (by omega) (by omega)]
theorem upI_s {i b : Int32} {n : Nat} (h : i < b) (hu : upI i b (n + 1)) : upI (i + 1) b n := by
  obtain ⟨h1, -⟩ := hu
  have h2 := Int32.lt_iff_toInt_lt.mp h
  refine ⟨?_, ?_⟩
  · rw [i32_succ h]; omega
  · omega
theorem upI_i {i b : Int32} : upI i b ((b.toInt - i.toInt).toNat + 1) := ⟨by omega, Nat.succ_pos _⟩
def upE (i b : Int32) (n : Nat) : Prop := b.toInt - i.toInt + 1 < n ∧ 0 < n
theorem upE_0 {i b : Int32} : ¬ upE i b 0 := fun h => absurd h.2 (Nat.lt_irrefl 0)
theorem upE_s {i b : Int32} {n : Nat} (h : i ≤ b) (hb : b < 2147483647) (hu : upE i b (n + 1)) : upE (i + 1) b n := by
  obtain ⟨h1, -⟩ := hu
  have h2 := Int32.le_iff_toInt_le.mp h
  have h3 : i < 2147483647 := Int32.lt_iff_toInt_lt.mpr (by have := Int32.lt_iff_toInt_lt.mp hb; omega)
  refine ⟨?_, ?_⟩
  · rw [i32_succ h3]; omega
  · omega
theorem upE_i {i b : Int32} : upE i b ((b.toInt - i.toInt + 1).toNat + 1) := ⟨by omega, Nat.succ_pos _⟩
def dnI (i : Int32) (n : Nat) : Prop := i.toInt < n ∧ 0 < n
theorem dnI_0 {i : Int32} : ¬ dnI i 0 := fun h => absurd h.2 (Nat.lt_irrefl 0)
theorem i32_pred {i : Int32} (h : 0 < i) : (i - 1).toInt = i.toInt - 1 ∧ (i + (-1)).toInt = i.toInt - 1 := by
  have h1 := Int32.lt_iff_toInt_lt.mp h
  have h2 := Int32.toInt_lt i
  rw [show (0 : Int32).toInt = 0 from rfl] at h1
  refine ⟨?_, ?_⟩
  · rw [Int32.toInt_sub, show (1 : Int32).toInt = 1 from rfl, Int.bmod_eq_of_le (by omega) (by omega)]
  · rw [Int32.toInt_add, show (-1 : Int32).toInt = -1 from rfl, Int.bmod_eq_of_le (by omega) (by omega)]; omega
theorem dnI_s {i : Int32} {n : Nat} (h : 0 < i) (hu : dnI i (n + 1)) : dnI (i + (-1)) n := by
  obtain ⟨h1, -⟩ := hu
  have h2 := Int32.lt_iff_toInt_lt.mp h
  rw [show (0 : Int32).toInt = 0 from rfl] at h2
  refine ⟨?_, ?_⟩
  · rw [(i32_pred h).2]; omega
  · omega
theorem dnI_i {i : Int32} : dnI i (i.toInt.toNat + 1) := ⟨by omega, Nat.succ_pos _⟩
def upN (i b : Int32) (n : Nat) : Prop := 0 ≤ i ∧ upI i b n
theorem upN_0 {i b : Int32} : ¬ upN i b 0 := fun h => upI_0 h.2
theorem upN_s {i b : Int32} {n : Nat} (h : i < b) (hu : upN i b (n + 1)) : upN (i + 1) b n := by
  refine ⟨?_, upI_s h hu.2⟩
  have h1 := Int32.le_iff_toInt_le.mp hu.1
  rw [show (0 : Int32).toInt = 0 from rfl] at h1
  rw [Int32.le_iff_toInt_le, i32_succ h, show (0 : Int32).toInt = 0 from rfl]
  omega
theorem upN_i {i b : Int32} (h : 0 ≤ i) : upN i b ((b.toInt - i.toInt).toNat + 1) := ⟨h, upI_i⟩
theorem upN_in {i b : Int32} {n m : Nat} (hu : upN i b n) (h : ¬ nI m ≤ i) (hm : m < 2147483648) : vp_in i m := up_in (Int32.not_lt.mpr hu.1) h hm
def dnB (i b : Int32) (n : Nat) : Prop := i.toInt - b.toInt + 1 < n ∧ 0 < n
theorem dnB_0 {i b : Int32} : ¬ dnB i b 0 := fun h => absurd h.2 (Nat.lt_irrefl 0)
theorem dnB_s {i b : Int32} {n : Nat} (h : b ≤ i) (hb : 0 ≤ b) (hu : dnB i b (n + 1)) : dnB (i + (-1)) b n := by
  obtain ⟨h1, -⟩ := hu
  have h2 := Int32.le_iff_toInt_le.mp h
  have h3 := Int32.le_iff_toInt_le.mp hb
  have h4 := Int32.toInt_lt i
  rw [show (0 : Int32).toInt = 0 from rfl] at h3
  have e : (i + (-1)).toInt = i.toInt - 1 := by
    rw [Int32.toInt_add, show (-1 : Int32).toInt = -1 from rfl, Int.bmod_eq_of_le (by omega) (by omega)]; omega
  refine ⟨?_, ?_⟩
  · rw [e]; omega
  · omega
theorem dnB_i {i b : Int32} : dnB i b ((i.toInt - b.toInt + 1).toNat + 1) := ⟨by omega, Nat.succ_pos _⟩
