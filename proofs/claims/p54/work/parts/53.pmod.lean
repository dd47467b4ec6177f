/-! ===== the whole relation: history, snapshot, errors, texts ===== -/
def RH (B : Nat) (hi : HiV) (hs : Nat → StV) (past : Nat → Int32) (ch : Int32) : Prop := ∃ k x : Nat, k ≤ 8 ∧ x < 9 ∧ hi.1 = nI k ∧ hi.2 = nI x ∧ ch = nI k ∧ ∀ i, i < k → RS B (hs ((x + 9 - k + i) % 9)) (fun j => past (249 * i + j))
def RSN (B : Nat) (f : Int32) (sn : StV) (g : Int32) (saved : Nat → Int32) : Prop := f = g ∧ (f = 0 ∨ f = 1 ∧ RS B sn saved)
def RER (e : Int32) : Prop := e = -1 ∨ ∃ j : Nat, j < 100 ∧ e = nI j
def TX (tb : SbV) (l : List Nat) : Prop := (tb.1 = 16 ∨ tb.1 = 34 ∨ tb.1 = 70) ∧ l.length ≤ tb.1 ∧ tb.2.2.2 = nI l.length ∧ (∀ i, i < tb.1 → ∃ c, c < 128 ∧ tb.2.1 i = nI c) ∧ (∀ i, i < l.length → tb.2.1 i = nI (l.getD i 0)) ∧ ∀ c ∈ l, c < 128
def MX (f : Nat → Int32) (n : Int32) (l : List Nat) : Prop := n = nI l.length ∧ ∀ i, i < l.length → f i = nI (l.getD i 0)
def RT (tb : SbV) (f : Nat → Int32) (n : Int32) : Prop := ∃ l, TX tb l ∧ MX f n l ∧ l.length ≤ 60 ∧ ∀ c ∈ l, 32 ≤ c ∧ c ≤ 126
def RN (tb : SbV) (f : Nat → Int32) (n : Int32) : Prop := ∃ l, TX tb l ∧ MX f n l ∧ l.length ≤ 40
def RW (B : Nat) (q : McV) (v sn : StV) (hi : HiV) (hs : Nat → StV) (tb nt : SbV) (d : MoV) : Prop :=
  RS B v d.1 ∧ RH B hi hs d.2.2.2.1 d.2.2.2.2.1 ∧ RSN B q.1 sn d.2.2.2.2.2.2.2.2.2.1 d.2.2.1 ∧ (q.2.1 = d.2.2.2.2.2.2.1 ∧ RER q.2.1) ∧ (q.2.2 = d.2.2.2.2.2.2.2.1 ∧ RER q.2.2) ∧
  RT tb d.2.2.2.2.2.2.2.2.2.2.2.2.1 d.2.2.2.2.2.2.2.2.2.2.2.2.2.2.1 ∧ RN nt d.2.2.2.2.2.2.2.2.2.2.1 d.2.2.2.2.2.2.2.2.2.2.2.1
theorem RH.mono {B B' : Nat} {hi : HiV} {hs : Nat → StV} {past : Nat → Int32} {ch : Int32} (h : RH B hi hs past ch) (hB : B ≤ B') : RH B' hi hs past ch := by
  obtain ⟨k, x, h1, h2, h3, h4, h5, h6⟩ := h
  exact ⟨k, x, h1, h2, h3, h4, h5, fun i hi => (h6 i hi).mono hB⟩
theorem RSN.mono {B B' : Nat} {f g : Int32} {sn : StV} {saved : Nat → Int32} (h : RSN B f sn g saved) (hB : B ≤ B') : RSN B' f sn g saved := ⟨h.1, h.2.imp id (fun p => ⟨p.1, p.2.mono hB⟩)⟩
theorem RW.mono {B B' : Nat} {q : McV} {v sn : StV} {hi : HiV} {hs : Nat → StV} {tb nt : SbV} {d : MoV} (h : RW B q v sn hi hs tb nt d) (hB : B ≤ B') : RW B' q v sn hi hs tb nt d := ⟨h.1.mono hB, h.2.1.mono hB, h.2.2.1.mono hB, h.2.2.2⟩
/-- what was thrown does not matter -/
theorem RW.thr {B : Nat} {q : McV} {v sn : StV} {hi : HiV} {hs : Nat → StV} {tb nt : SbV} {d : MoV} (h : RW B q v sn hi hs tb nt d) (x : Int32) : RW B q v sn hi hs tb nt (mo5 d x) := h
/-- how a call ended, in both: with an exception of the list, by its place from 1 on; or with the same value -/
def RC (xs : List String) (E : String) (a b th : Int32) : Prop := E = "" ∧ th = 0 ∧ a = b ∨ ∃ i : Nat, i < 5 ∧ xs[i]? = some E ∧ E ≠ "" ∧ th = nI (i + 1)
theorem RC.ok {xs : List String} {a b : Int32} (h : a = b) : RC xs "" a b 0 := Or.inl ⟨rfl, rfl, h⟩
theorem RC.x1 {E : String} {xs : List String} {a b : Int32} (h : E ≠ "") : RC (E :: xs) E a b 1 := Or.inr ⟨0, by decide, rfl, h, rfl⟩
theorem RC.x2 {E E1 : String} {xs : List String} {a b : Int32} (h : E ≠ "") : RC (E1 :: E :: xs) E a b 2 := Or.inr ⟨1, by decide, rfl, h, rfl⟩
theorem RC.x3 {E E1 E2 : String} {xs : List String} {a b : Int32} (h : E ≠ "") : RC (E1 :: E2 :: E :: xs) E a b 3 := Or.inr ⟨2, by decide, rfl, h, rfl⟩
theorem RC.x4 {E E1 E2 E3 : String} {xs : List String} {a b : Int32} (h : E ≠ "") : RC (E1 :: E2 :: E3 :: E :: xs) E a b 4 := Or.inr ⟨3, by decide, rfl, h, rfl⟩
/-! what every modification does with the history -/
theorem m_keeps (d : MoV) : f_X10_keeps d = mo5 (mo1 d (fun q => if q < 249 then d.1 q else d.2.1 q)) 0 ∧ ok_X10_keeps d := by
  obtain ⟨h1, h2⟩ := m_copies (fn := 249) (gn := 249) (i := 0) (j := 0) d.1 d.2.1 (by decide) (by decide) (by decide) (by decide)
  have h1 : f_X10_copies 249 d.1 0 249 d.2.1 0 = _ := h1
  have h2 : ok_X10_copies 249 d.1 0 249 d.2.1 0 := h2
  unfold f_X10_keeps ok_X10_keeps
  rw [h1]
  refine ⟨?_, h2, trivial⟩
  simp
theorem m_ends_lp (d : MoV) (told : Int32) (hc : d.2.2.2.2.1 = 8) : ∀ (k x : Nat) (p : Nat → Int32), 1 ≤ x → x + k = 9 → (∀ i, i + 1 < x → ∀ j, j < 249 → p (249 * i + j) = d.2.2.2.1 (249 * (i + 1) + j)) → (∀ q, 249 * (x - 1) ≤ q → p q = d.2.2.2.1 q) →
    okl_lp_X10_ends_20 d told k (nI x) (mo3 d p) ∧ (k ≠ 0 → ∃ p', lp_X10_ends_20 d told k (nI x) (mo3 d p) = (told, mo4 (mo3 d p') (nI 8)) ∧ (∀ i, i < 7 → ∀ j, j < 249 → p' (249 * i + j) = d.2.2.2.1 (249 * (i + 1) + j)) ∧ ∀ j, j < 249 → p' (249 * 7 + j) = d.2.1 j) := by
  intro k
  induction k with
  | zero => intro x p _ _ _ _; exact ⟨trivial, fun h => absurd rfl h⟩
  | succ k ih =>
    intro x p hx1 hx h1 h2
    show (if (8 : Int32) ≤ nI x then (ok_X10_copies 249 d.2.1 0 1992 p (249 * (d.2.2.2.2.1 - 1)) ∧ True) else (ok_X10_copies2 1992 p (249 * nI x) (249 * (nI x - 1)) ∧ okl_lp_X10_ends_20 d told k (nI x + 1) (mo3 d (f_X10_copies2 1992 p (249 * nI x) (249 * (nI x - 1)))))) ∧
      (_ → ∃ p', (if (8 : Int32) ≤ nI x then (told, mo4 (mo3 d (f_X10_copies 249 d.2.1 0 1992 p (249 * (d.2.2.2.2.1 - 1)))) ((d.2.2.2.2.1 - 1) + 1)) else lp_X10_ends_20 d told k (nI x + 1) (mo3 d (f_X10_copies2 1992 p (249 * nI x) (249 * (nI x - 1))))) = (told, mo4 (mo3 d p') (nI 8)) ∧ _)
    rw [q_8]
    by_cases hk : 8 ≤ x
    · have hx8 : x = 8 := by omega
      subst hx8
      rw [hc, if_pos (nI_le hk (by omega)), if_pos (nI_le hk (by omega))]
      obtain ⟨c1, c2⟩ := m_copies (fn := 249) (gn := 1992) (i := 0) (j := 1743) d.2.1 p (by decide) (by decide) (by decide) (by decide)
      have c1 : f_X10_copies 249 d.2.1 0 1992 p (249 * (8 - 1)) = _ := c1
      have c2 : ok_X10_copies 249 d.2.1 0 1992 p (249 * (8 - 1)) := c2
      refine ⟨⟨c2, trivial⟩, fun _ => ⟨_, by rw [c1]; rfl, fun i hi j hj => ?_, fun j hj => ?_⟩⟩
      · show (if 1743 ≤ 249 * i + j ∧ 249 * i + j < 1743 + 249 then _ else _) = _
        rw [if_neg (by omega)]
        exact h1 i (by omega) j hj
      · show (if 1743 ≤ 249 * 7 + j ∧ 249 * 7 + j < 1743 + 249 then d.2.1 (0 + (249 * 7 + j - 1743)) else _) = _
        rw [if_pos (by omega), show 0 + (249 * 7 + j - 1743) = j by omega]
    · rw [if_neg (nI_ge (by omega) (by omega)), if_neg (nI_ge (by omega) (by omega))]
      obtain ⟨c1, c2⟩ := m_copies2 (fn := 1992) (i := 249 * x) (j := 249 * (x - 1)) p (by omega) (by omega) (by decide)
      have ex : nI x - 1 = nI (x - 1) := by rw [q_1, pk_sub hx1]
      rw [ex, q_249, pk_mul, pk_mul, c1, nI_1]
      have := ih (x + 1) (fun q => if 249 * (x - 1) ≤ q ∧ q < 249 * (x - 1) + 249 then p (249 * x + (q - 249 * (x - 1))) else p q) (by omega) (by omega) (fun i hi j hj => by
        show (if 249 * (x - 1) ≤ 249 * i + j ∧ 249 * i + j < 249 * (x - 1) + 249 then p (249 * x + (249 * i + j - 249 * (x - 1))) else p (249 * i + j)) = _
        by_cases e : i + 1 = x
        · subst e
          rw [if_pos (by omega), h2 _ (by omega)]
          exact congrArg d.2.2.2.1 (by omega)
        · rw [if_neg (by omega)]
          exact h1 i (by omega) j hj) (fun q hq => by
        show (if 249 * (x - 1) ≤ q ∧ q < 249 * (x - 1) + 249 then _ else p q) = _
        rw [if_neg (by omega)]
        exact h2 q (by omega))
      exact ⟨⟨c2, this.1⟩, fun _ => this.2 (by omega)⟩
theorem m_ends (d : MoV) (told : Int32) {k : Nat} (hk : k ≤ 8) (ht : d.2.2.2.2.2.1 = 0) (hc : d.2.2.2.2.1 = nI k) : ok_X10_ends d told ∧ ∃ p', f_X10_ends d told = (told, mo4 (mo3 d p') (nI (min k 7 + 1))) ∧ (∀ i, i < min k 7 → ∀ j, j < 249 → p' (249 * i + j) = d.2.2.2.1 (249 * (i + (k - min k 7)) + j)) ∧ ∀ j, j < 249 → p' (249 * min k 7 + j) = d.2.1 j := by
  unfold ok_X10_ends f_X10_ends
  rw [if_pos ht, if_pos ht]
  by_cases h8 : k = 8
  · subst h8
    have hc8 : d.2.2.2.2.1 = 8 := hc
    rw [if_pos hc8, if_pos hc8]
    obtain ⟨a1, a2⟩ := m_ends_lp d told hc8 8 1 d.2.2.2.1 (by decide) (by decide) (fun i hi => absurd hi (by omega)) (fun q _ => rfl)
    obtain ⟨p', b1, b2, b3⟩ := a2 (by decide)
    exact ⟨a1, p', b1, fun i hi j hj => b2 i (by omega) j hj, b3⟩
  · have hn : ¬ d.2.2.2.2.1 = 8 := by
      rw [hc, q_8, nI_eq (by omega) (by omega)]
      exact h8
    rw [if_neg hn, if_neg hn, hc]
    obtain ⟨c1, c2⟩ := m_copies (fn := 249) (gn := 1992) (i := 0) (j := 249 * k) d.2.1 d.2.2.2.1 (by decide) (by omega) (by decide) (by decide)
    rw [q_249, pk_mul, nI_1, show min k 7 = k by omega]
    have c1 : f_X10_copies 249 d.2.1 0 1992 d.2.2.2.1 (nI (249 * k)) = _ := c1
    have c2 : ok_X10_copies 249 d.2.1 0 1992 d.2.2.2.1 (nI (249 * k)) := c2
    refine ⟨⟨c2, trivial⟩, _, by rw [c1], fun i hi j hj => ?_, fun j hj => ?_⟩
    · show (if 249 * k ≤ 249 * i + j ∧ 249 * i + j < 249 * k + 249 then _ else _) = _
      rw [if_neg (by omega), show k - k = 0 by omega]; rfl
    · show (if 249 * k ≤ 249 * k + j ∧ 249 * k + j < 249 * k + 249 then d.2.1 (0 + (249 * k + j - 249 * k)) else _) = _
      rw [if_pos (by omega), show 0 + (249 * k + j - 249 * k) = j by omega]
/-- the history behind a modification -/
theorem RH.note {B : Nat} {hi : HiV} {hs : Nat → StV} {past : Nat → Int32} {ch : Int32} {v : StV} {s : Nat → Int32} (h : RH B hi hs past ch) (hS : RS B v s) {w : Nat → Int32} (hw : ∀ j, j < 249 → w j = s j) {k : Nat} (hk : k ≤ 8) (hc : ch = nI k) {p' : Nat → Int32}
    (h1 : ∀ i, i < min k 7 → ∀ j, j < 249 → p' (249 * i + j) = past (249 * (i + (k - min k 7)) + j)) (h2 : ∀ j, j < 249 → p' (249 * min k 7 + j) = w j) : RH B (f_X4_note hi hs v).1 (f_X4_note hi hs v).2 p' (nI (min k 7 + 1)) := by
  obtain ⟨k', x, g1, g2, g3, g4, g5, g6⟩ := h
  have ek : k' = k := (nI_eq (by omega) (by omega)).mp (g5.symm.trans hc)
  subst ek
  have e : f_X4_note hi hs v = (f_X4_keepDraft hi, f_X4_draft hi hs v) := rfl
  rw [e]
  unfold f_X4_keepDraft f_X4_draft f_X4_copy
  rw [g3, g4, nI_clamp (by omega)]
  refine ⟨min k' 7 + 1, (x + 1) % 9, by omega, by omega, ?_, ?_, rfl, fun i hi => ?_⟩
  · show f_J9_min_7cf53 (nI k' + 1) 8 = _
    rw [nI_1, q_8, n_min (by omega) (by omega), show min (k' + 1) 8 = min k' 7 + 1 by omega]
  · show f_J9_floorMod_7cf53 (nI x + 1) 9 = _
    rw [nI_1, q_9, n_fm (by omega) (by decide) (by decide)]
  · by_cases hl : i = min k' 7
    · subst hl
      rw [show ((x + 1) % 9 + 9 - (min k' 7 + 1) + min k' 7) % 9 = x by omega]
      show RS B (va_up hs x _ x) _
      rw [va_up_self]
      exact (hS.copy _).congr (fun j hj => (h2 j hj).trans (hw j hj))
    · show RS B (va_up hs x _ (((x + 1) % 9 + 9 - (min k' 7 + 1) + i) % 9)) _
      rw [va_up_ne _ _ (by omega)]
      have := g6 (i + (k' - min k' 7)) (by omega)
      rw [show (x + 9 - k' + (i + (k' - min k' 7))) % 9 = ((x + 1) % 9 + 9 - (min k' 7 + 1) + i) % 9 by omega] at this
      exact this.congr (fun j hj => h1 i (by omega) j hj)
/-- a modification that went through: keeps, a new row, ends -/
theorem m_modify {B B' : Nat} {q : McV} {v sn v' : StV} {hi : HiV} {hs : Nat → StV} {tb nt : SbV} {d : MoV} (h : RW B q v sn hi hs tb nt d) (hB : B ≤ B') (s' : Nat → Int32) (told : Int32) (hS : RS B' v' s') (w : Nat → Int32) (hw : ∀ j, j < 249 → w j = d.1 j) :
    ok_X10_ends (mo5 (mo0 (mo1 d w) s') 0) told ∧ (f_X10_ends (mo5 (mo0 (mo1 d w) s') 0) told).1 = told ∧ (f_X10_ends (mo5 (mo0 (mo1 d w) s') 0) told).2.2.2.2.2.2.1 = 0 ∧ RW B' q v' sn (f_X4_note hi hs v).1 (f_X4_note hi hs v).2 tb nt (f_X10_ends (mo5 (mo0 (mo1 d w) s') 0) told).2 := by
  obtain ⟨r1, r2, r3, r4, r5, r6, r7⟩ := h
  obtain ⟨k, x, g1, g2, g3, g4, g5, g6⟩ := id r2
  obtain ⟨o, p', e1, e2, e3⟩ := m_ends (mo5 (mo0 (mo1 d w) s') 0) told g1 rfl g5
  refine ⟨o, ?_, ?_, ?_⟩
  · rw [e1]
  · rw [e1]
  · rw [e1]
    exact ⟨hS, (r2.note r1 hw g1 g5 e2 e3).mono hB, r3.mono hB, r4, r5, r6, r7⟩
