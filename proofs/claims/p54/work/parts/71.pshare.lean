/-! ===== the share of entries ===== -/
theorem fp_t : FP.Core.b64.tails = 4503599627370496 := by decide
theorem fp_x : FP.Core.b64.exps = 2048 := by decide
theorem fp_qn : FP.Core.b64.qmin = -1074 := by decide
theorem fp_qx : FP.Core.b64.qmax = 971 := by decide
theorem fp_p : 2 ^ FP.Core.b64.p = 9007199254740992 := by decide
theorem as_n64 {s : Bool} {e t : Nat} (h : e * 4503599627370496 + t ≤ 9218868437227405312) : vf_n64 (UInt64.ofNat (FP.Core.assemble FP.Core.b64 s e t)) := by
  unfold vf_n64
  rw [UInt64.le_iff_toNat_le, UInt64.toNat_and]
  have e1 : (0x7fffffffffffffff : UInt64).toNat = 2 ^ 63 - 1 := by decide
  have e2 : (0x7ff0000000000000 : UInt64).toNat = 9218868437227405312 := by decide
  rw [e1, e2, Nat.and_two_pow_sub_one_eq_mod]
  unfold FP.Core.assemble
  rw [fp_t, fp_x]
  have hs : s.toNat ≤ 1 := by cases s <;> decide
  have : (UInt64.ofNat ((s.toNat * 2048 + e) * 4503599627370496 + t)).toNat = (s.toNat * 2048 + e) * 4503599627370496 + t := UInt64.toNat_ofNat_of_lt' (show (s.toNat * 2048 + e) * 4503599627370496 + t < 2 ^ 64 by omega)
  rw [this]
  omega
theorem en_fin {s : Bool} {c : Nat} {q : Int} (hc : c < 9007199254740992) (hq : q ≤ 971) : vf_n64 (UInt64.ofNat (FP.Core.encode FP.Core.b64 (.fin s c q))) := by
  show vf_n64 (UInt64.ofNat (if c < FP.Core.b64.tails then FP.Core.assemble FP.Core.b64 s 0 c else FP.Core.assemble FP.Core.b64 s ((q - FP.Core.b64.qmin).toNat + 1) (c - FP.Core.b64.tails)))
  rw [fp_t, fp_qn]
  split
  · exact as_n64 (by omega)
  · exact as_n64 (by omega)
theorem en_inf (s : Bool) : vf_n64 (UInt64.ofNat (FP.Core.encode FP.Core.b64 (.inf s))) := by
  show vf_n64 (UInt64.ofNat (FP.Core.assemble FP.Core.b64 s (FP.Core.b64.exps - 1) 0))
  rw [fp_x]
  exact as_n64 (by omega)
theorem en_rr (s : Bool) (A B : Nat) (e : Int) : vf_n64 (UInt64.ofNat (FP.Core.encode FP.Core.b64 (FP.Core.roundRatio FP.Core.b64 s A B e))) := by
  unfold FP.Core.roundRatio FP.Core.roundAt FP.Core.settle FP.Core.bound
  rw [fp_p, fp_qx, fp_qn, fp_t]
  split
  · exact en_fin (by decide) (by decide)
  · split
    · rename_i h
      split
      · rename_i g
        exact en_fin h g
      · exact en_inf s
    · split
      · rename_i g
        exact en_fin (by decide) g
      · exact en_inf s
theorem nearest_1 (n : Nat) : FP.Core.nearest n 1 = n := by
  unfold FP.Core.nearest
  rw [if_pos (by omega), Nat.div_one]
theorem de_as {s : Bool} {e t : Nat} (he : 1 ≤ e) (he2 : e < 2047) (ht : t < 4503599627370496) : ∃ s' q, FP.Core.decode FP.Core.b64 (UInt64.ofNat (FP.Core.assemble FP.Core.b64 s e t)).toNat = .fin s' (4503599627370496 + t) q := by
  have hs : s.toNat ≤ 1 := by cases s <;> decide
  have en : (UInt64.ofNat (FP.Core.assemble FP.Core.b64 s e t)).toNat = (s.toNat * 2048 + e) * 4503599627370496 + t := by
    unfold FP.Core.assemble
    rw [fp_t, fp_x]
    exact UInt64.toNat_ofNat_of_lt' (show (s.toNat * 2048 + e) * 4503599627370496 + t < 2 ^ 64 by omega)
  have eE : FP.Core.fieldE FP.Core.b64 ((s.toNat * 2048 + e) * 4503599627370496 + t) = e := by
    unfold FP.Core.fieldE
    rw [fp_t, fp_x]; omega
  have eT : FP.Core.fieldT FP.Core.b64 ((s.toNat * 2048 + e) * 4503599627370496 + t) = t := by
    unfold FP.Core.fieldT
    rw [fp_t]; omega
  rw [en]
  unfold FP.Core.decode
  rw [eE, eT, fp_x, fp_t, if_neg (by omega), if_neg (by omega)]
  exact ⟨_, _, rfl⟩
theorem i2d_fin (x : Int32) : ∃ s c q, FP.Core.decode FP.Core.b64 (FP.Core.i2d x).toNat = .fin s c q ∧ (¬ x = 0 → c ≠ 0) := by
  have hx1 := Int32.le_toInt x
  have hx2 := Int32.toInt_lt x
  obtain ⟨sg, hsg⟩ : ∃ sg, sg = decide (x.toInt < 0) := ⟨_, rfl⟩
  obtain ⟨n, hnn⟩ : ∃ n, n = x.toInt.natAbs := ⟨_, rfl⟩
  have hn : n < 2 ^ 32 := by omega
  have ei : FP.Core.i2d x = UInt64.ofNat (FP.Core.encode FP.Core.b64 (FP.Core.roundRatio FP.Core.b64 sg n 1 0)) := by
    unfold FP.Core.i2d FP.Core.fromInt FP.Core.ofInt
    rw [← hsg, ← hnn]
    rfl
  rw [ei]
  by_cases h0 : n = 0
  · have hx : x = 0 := Int32.toInt_inj.mp (by rw [show (0 : Int32).toInt = 0 from rfl]; omega)
    have hs0 : sg = false := by rw [hsg, hx]; decide
    rw [h0, hs0]
    exact ⟨false, 0, -1074, by decide, fun h => absurd hx h⟩
  · have g1 := Nat.log2_self_le h0
    have g2 := Nat.lt_log2_self (n := n)
    have g3 : n.log2 < 32 := (Nat.log2_lt h0).mpr hn
    have eq0 : FP.Core.quantum FP.Core.b64 n 1 0 = (n.log2 : Int) - 52 := by
      unfold FP.Core.quantum FP.Core.leading
      have z : Nat.log2 1 = 0 := by decide
      have e1 : ((n.log2 : Int) - (Nat.log2 1 : Int)).toNat = n.log2 := by rw [z]; omega
      have e2 : (-((n.log2 : Int) - (Nat.log2 1 : Int))).toNat = 0 := by rw [z]; omega
      simp only [e1, e2]
      rw [if_pos (by rw [Nat.one_mul, Nat.pow_zero, Nat.mul_one]; exact g1), fp_qn, z, show ((FP.Core.b64.p : Nat) : Int) = 53 from by decide]
      omega
    have eu : FP.Core.unitsNum n 0 ((n.log2 : Int) - 52) = n * 2 ^ (52 - n.log2) := by
      unfold FP.Core.unitsNum
      rw [show (0 - ((n.log2 : Int) - 52)).toNat = 52 - n.log2 by omega]
    have ed : FP.Core.unitsDen 1 0 ((n.log2 : Int) - 52) = 1 := by
      unfold FP.Core.unitsDen
      rw [show ((n.log2 : Int) - 52 - 0).toNat = 0 by omega]
    have b1 : 4503599627370496 ≤ n * 2 ^ (52 - n.log2) := by
      have : 2 ^ n.log2 * 2 ^ (52 - n.log2) ≤ n * 2 ^ (52 - n.log2) := Nat.mul_le_mul_right _ g1
      rw [← Nat.pow_add, show n.log2 + (52 - n.log2) = 52 by omega] at this
      exact this
    have b2 : n * 2 ^ (52 - n.log2) < 9007199254740992 := by
      have : n * 2 ^ (52 - n.log2) < 2 ^ (n.log2 + 1) * 2 ^ (52 - n.log2) := Nat.mul_lt_mul_of_pos_right g2 (Nat.two_pow_pos _)
      rw [← Nat.pow_add, show n.log2 + 1 + (52 - n.log2) = 53 by omega] at this
      exact this
    generalize n * 2 ^ (52 - n.log2) = c at eu b1 b2
    have er : FP.Core.roundRatio FP.Core.b64 sg n 1 0 = .fin sg c ((n.log2 : Int) - 52) := by
      unfold FP.Core.roundRatio FP.Core.roundAt FP.Core.settle FP.Core.bound
      rw [if_neg h0, eq0, eu, ed, nearest_1, fp_p, fp_qx, if_pos b2, if_pos (by omega)]
    rw [er]
    have ee : FP.Core.encode FP.Core.b64 (.fin sg c ((n.log2 : Int) - 52)) = FP.Core.assemble FP.Core.b64 sg (((n.log2 : Int) - 52 - -1074).toNat + 1) (c - 4503599627370496) := by
      show (if c < FP.Core.b64.tails then FP.Core.assemble FP.Core.b64 sg 0 c else FP.Core.assemble FP.Core.b64 sg (((n.log2 : Int) - 52 - FP.Core.b64.qmin).toNat + 1) (c - FP.Core.b64.tails)) = _
      rw [fp_t, fp_qn, if_neg (by omega)]
    rw [ee]
    obtain ⟨s', q, hq⟩ := de_as (s := sg) (e := ((n.log2 : Int) - 52 - -1074).toNat + 1) (t := c - 4503599627370496) (by omega) (by omega) (by omega)
    exact ⟨s', _, q, hq, fun _ => by omega⟩
theorem share_ok {x y : Int32} (h0 : ¬ y = 0) : vf_n64 (FP.ddiv (FP.i2d x) (FP.i2d y)) := by
  obtain ⟨s, c, q, h1, -⟩ := i2d_fin x
  obtain ⟨t, d, r, h2, h3⟩ := i2d_fin y
  show vf_n64 (UInt64.ofNat (FP.Core.encode FP.Core.b64 (FP.Core.quotient FP.Core.b64 (FP.Core.decode FP.Core.b64 (FP.Core.i2d x).toNat) (FP.Core.decode FP.Core.b64 (FP.Core.i2d y).toNat))))
  rw [h1, h2]
  show vf_n64 (UInt64.ofNat (FP.Core.encode FP.Core.b64 (if d = 0 then (if c = 0 then FP.Core.Datum.nan else .inf (s != t)) else FP.Core.roundRatio FP.Core.b64 (s != t) c d (q - r))))
  rw [if_neg (h3 h0)]
  exact en_rr _ _ _ _
theorem R_entryShare {B : Nat} {q : McV} {v sn : StV} {hi : HiV} {hs : Nat → StV} {tb nt : SbV} {d : MoV} (h : RW B q v sn hi hs tb nt d) (hB : B < 2 ^ 30) : (ok_X10_entryShare d ∧ ok_X9_entryShare q v) ∧ ((f_X9_entryShare q v).1 = "" ∧ (f_X10_entryShare d).2.2.2.2.2.2.1 = 0 ∧ (f_X9_entryShare q v).2 = (f_X10_entryShare d).1 ∧ (∃ x y : Int32, ¬ y = 0 ∧ (f_X10_entryShare d).1 = FP.ddiv (FP.i2d x) (FP.i2d y)) ∨ (f_X9_entryShare q v).1 = "java/lang/ArithmeticException" ∧ (f_X10_entryShare d).2.2.2.2.2.2.1 = 1) ∧ RW B q v sn hi hs tb nt (f_X10_entryShare d).2 := by
  obtain ⟨t, c, ht, hc, hc2, e1, e2, e3, e4, hD, hE, hP, hA⟩ := id h.1
  obtain ⟨a1, a2⟩ := m_attempts hA
  obtain ⟨a3, a4⟩ := m_attempts (d := mo5 d 0) hA
  obtain ⟨na, q1, q2, q3, q4, q5, q6, q7⟩ := id hA
  have er : f_X0_countResults v.2.2.2.2.2 0 = d.1 6 := by
    unfold f_X0_countResults
    rw [show (0 : Int32) = nI 0 from rfl, n_at _ (by decide) (by decide)]
    exact (q5 0 (by decide)).symm
  unfold ok_X10_entryShare ok_X9_entryShare f_X9_entryShare f_X10_entryShare
  rw [a1]
  by_cases g : v.2.2.2.2.2.1 = 0
  · simp only [g, eq_self, ite_true, m_thr1]
    exact ⟨⟨⟨a2, trivial⟩, trivial⟩, Or.inr ⟨trivial, trivial⟩, h.thr 1⟩
  · simp only [eq_false g, ite_false, m_thr0, er, a3, show ((6 : Int32).toNatClampNeg) = 6 from rfl]
    refine ⟨⟨⟨a2, a4, share_ok g, trivial⟩, share_ok g, trivial⟩, Or.inl ⟨trivial, trivial, trivial, _, _, g, rfl⟩, h.thr 0⟩
