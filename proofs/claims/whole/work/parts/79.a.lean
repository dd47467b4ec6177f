/-! ===== the law: what is fixed while it runs ===== -/
def LCtx (p : Program) (s : State) (m : MethodId) (c : Code) (G : GG) (A : Nat → Prop) (b L : Nat) (xs : Nat → Int32) : Prop := p.tables.exec = Jvm.exec ∧ c.code = cL_law ∧ c.maxLocals = 9 ∧ s.vm.findClass RL = some m.cls ∧ (∀ w ∈ UW, w.before #[Value.ref b] s = true) ∧ KK G s ∧ ST G A s ∧ (∀ q : Nat, s.heap.size ≤ q → A q) ∧ va_X b L xs s s.heap ∧ b < s.heap.size ∧ ¬ A b
theorem lw_in {j L k : Nat} {K : Int32} (hK : K = nI k) (h : j + 6 ≤ L) (hL : L ≤ 3072) (hk : k < 6) : vp_in (nI j + K) L := by
  subst hK
  rw [nI_add]
  exact vp_in_nI (by omega) (by omega)
abbrev LwT : Type := McV × StV × StV × HiV × (Nat → StV) × PrV × SbV × SbV × MoV × (Nat → Int64) × (Nat → UInt64)
