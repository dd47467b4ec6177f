/-! ===== the reference reads ===== -/
theorem y_sign {l : List Nat} {e : MoV} (hM : MX e.2.2.2.2.2.2.2.2.2.2.2.2.1 e.2.2.2.2.2.2.2.2.2.2.2.2.2.2.1 l) (hl : l.length ≤ 60) {p : Nat} (hp : p < 2 ^ 30) : f_X10_sign (mo15 e (nI p)) = (if p < l.length then nI (l.getD p 0) else -1) ∧ ok_X10_sign (mo15 e (nI p)) := by
  unfold f_X10_sign ok_X10_sign
  show (if e.2.2.2.2.2.2.2.2.2.2.2.2.2.2.1 ≤ nI p then (-1 : Int32) else e.2.2.2.2.2.2.2.2.2.2.2.2.1 (nI p).toNatClampNeg) = _ ∧ (if e.2.2.2.2.2.2.2.2.2.2.2.2.2.2.1 ≤ nI p then True else vp_in (nI p) 60 ∧ True)
  rw [hM.1, nI_clamp (by omega)]
  by_cases h : p < l.length
  · rw [if_neg (nI_ge h (by omega)), if_neg (nI_ge h (by omega)), if_pos h]
    exact ⟨hM.2 p h, vp_in_nI (by omega) (by decide), trivial⟩
  · rw [if_pos (nI_le (by omega) (by omega)), if_pos (nI_le (by omega) (by omega)), if_neg h]
    exact ⟨rfl, trivial⟩
theorem y_is {l : List Nat} {e : MoV} (hM : MX e.2.2.2.2.2.2.2.2.2.2.2.2.1 e.2.2.2.2.2.2.2.2.2.2.2.2.2.2.1 l) (hl : l.length ≤ 60) (hch : ∀ c ∈ l, c < 128) {p c : Nat} (hp : p < 2 ^ 30) (hc0 : 0 < c) (hc : c < 128) : f_X10_isSign (mo15 e (nI p)) (nI c) = (if l.getD p 0 = c then (1, mo15 e (nI (p + 1))) else (0, mo15 e (nI p))) ∧ ok_X10_isSign (mo15 e (nI p)) (nI c) := by
  obtain ⟨a, b⟩ := y_sign hM hl hp
  have g := pg_lt hch p
  unfold f_X10_isSign ok_X10_isSign
  refine ⟨?_, b, trivial⟩
  show (if f_X10_sign (mo15 e (nI p)) = nI c then ((1 : Int32), mo15 e (nI p + 1)) else (0, mo15 e (nI p + 0))) = _
  rw [a, nI_1, Int32.add_zero]
  by_cases h : p < l.length
  · rw [if_pos h]
    by_cases f : l.getD p 0 = c
    · rw [if_pos (congrArg nI f), if_pos f]
    · rw [if_neg (fun w => f ((nI_eq (by omega) (by omega)).mp w)), if_neg f]
  · rw [if_neg h, pg_out (by omega), if_neg (fun w => (q_neM (by omega)).mp w.symm), if_neg (by omega)]
theorem y_dg {l : List Nat} {e : MoV} (hM : MX e.2.2.2.2.2.2.2.2.2.2.2.2.1 e.2.2.2.2.2.2.2.2.2.2.2.2.2.2.1 l) (hl : l.length ≤ 60) (hch : ∀ c ∈ l, c < 128) {p : Nat} (hp : p < 2 ^ 30) : (f_X10_isIn (f_X10_sign (mo15 e (nI p))) 48 57 = 0 ↔ ¬ (48 ≤ l.getD p 0 ∧ l.getD p 0 ≤ 57)) ∧ (48 ≤ l.getD p 0 ∧ l.getD p 0 ≤ 57 → f_X10_sign (mo15 e (nI p)) = nI (l.getD p 0)) := by
  obtain ⟨a, b⟩ := y_sign hM hl hp
  have g := pg_lt hch p
  unfold f_X10_isIn
  rw [a]
  by_cases h : p < l.length
  · rw [if_pos h, q_48, q_57]
    refine ⟨?_, fun _ => rfl⟩
    by_cases f : l.getD p 0 < 48
    · rw [if_pos (nI_lt f (by omega))]
      exact ⟨fun _ => by omega, fun _ => rfl⟩
    · rw [if_neg (nI_nlt (by omega) (by omega))]
      by_cases t : 57 < l.getD p 0
      · rw [if_pos (nI_lt t (by omega))]
        exact ⟨fun _ => by omega, fun _ => rfl⟩
      · rw [if_neg (nI_nlt (by omega) (by omega))]
        exact ⟨fun w => absurd w (by decide), fun w => absurd (show 48 ≤ l.getD p 0 ∧ l.getD p 0 ≤ 57 by omega) w⟩
  · rw [if_neg h, pg_out (by omega)]
    exact ⟨⟨fun _ => by omega, fun _ => by decide⟩, fun w => absurd w.1 (by decide)⟩
theorem y_num_lp {l : List Nat} {e : MoV} (hM : MX e.2.2.2.2.2.2.2.2.2.2.2.2.1 e.2.2.2.2.2.2.2.2.2.2.2.2.2.2.1 l) (hl : l.length ≤ 60) (hch : ∀ c ∈ l, c < 128) (D : MoV) {n j : Nat} (hn : 0 < n) (hn3 : n ≤ 3) (hj : j < 93) : ∀ (f t a p : Nat), t ≤ n → n < f + t → p < 2 ^ 29 + t →
    lp_X10_isNumber_5 D (nI n) (nI j) f (nI t) (nI a) (mo15 e (nI p)) = ((if t = 0 ∧ (pnu (fun i => l.getD i 0) (n - t) a p).2 = p then 0 else 1), mo15 (mo13 e (upd e.2.2.2.2.2.2.2.2.2.2.2.2.2.1 j (nI (pnu (fun i => l.getD i 0) (n - t) a p).1))) (nI (pnu (fun i => l.getD i 0) (n - t) a p).2)) ∧ okl_lp_X10_isNumber_5 D (nI n) (nI j) f (nI t) (nI a) (mo15 e (nI p)) := by
  intro f
  induction f with
  | zero => intro t a p h1 h2; omega
  | succ f ih =>
    intro t a p h1 h2 hp
    show (if nI n ≤ nI t then (if nI t ≤ 0 then ((0 : Int32), mo15 (mo13 e (upd e.2.2.2.2.2.2.2.2.2.2.2.2.2.1 (nI j).toNatClampNeg (nI a))) (nI p)) else (1, mo15 (mo13 e (upd e.2.2.2.2.2.2.2.2.2.2.2.2.2.1 (nI j).toNatClampNeg (nI a))) (nI p))) else if f_X10_isIn (f_X10_sign (mo15 e (nI p))) 48 57 = 0 then (if nI t ≤ 0 then ((0 : Int32), mo15 (mo13 e (upd e.2.2.2.2.2.2.2.2.2.2.2.2.2.1 (nI j).toNatClampNeg (nI a))) (nI p)) else (1, mo15 (mo13 e (upd e.2.2.2.2.2.2.2.2.2.2.2.2.2.1 (nI j).toNatClampNeg (nI a))) (nI p))) else lp_X10_isNumber_5 D (nI n) (nI j) f (nI t + 1) (10 * nI a + f_X10_sign (mo15 e (nI p)) - 48) (mo15 e (nI p + 1))) = _ ∧
      (if nI n ≤ nI t then vp_in (nI j) 93 ∧ True else ok_X10_sign (mo15 e (nI p)) ∧ (if f_X10_isIn (f_X10_sign (mo15 e (nI p))) 48 57 = 0 then vp_in (nI j) 93 ∧ True else ok_X10_sign (mo15 e (nI p)) ∧ okl_lp_X10_isNumber_5 D (nI n) (nI j) f (nI t + 1) (10 * nI a + f_X10_sign (mo15 e (nI p)) - 48) (mo15 e (nI p + 1))))
    obtain ⟨s1, s2⟩ := y_sign hM hl (p := p) (by omega)
    obtain ⟨g1, g2⟩ := y_dg hM hl hch (p := p) (by omega)
    have hv : vp_in (nI j) 93 ∧ True := ⟨vp_in_nI hj (by decide), trivial⟩
    rw [nI_clamp (show j < 2 ^ 31 by omega)]
    by_cases e1 : t = n
    · subst e1
      have z : t - t = 0 := Nat.sub_self t
      rw [if_pos (nI_le (Nat.le_refl t) (by omega)), if_pos (nI_le (Nat.le_refl t) (by omega)), if_neg (nI_nle hn (by omega)), z]
      refine ⟨?_, hv⟩
      rw [if_neg (fun w => by omega)]
      rfl
    · obtain ⟨u, hu⟩ : ∃ u, n - t = u + 1 := ⟨n - t - 1, by omega⟩
      rw [if_neg (nI_ge (by omega) (by omega)), if_neg (nI_ge (by omega) (by omega)), hu]
      simp only [pnu]
      by_cases f1 : 48 ≤ l.getD p 0 ∧ l.getD p 0 ≤ 57
      · have n1 : ¬ f_X10_isIn (f_X10_sign (mo15 e (nI p))) 48 57 = 0 := fun w => g1.mp w f1
        have ev : 10 * nI a + nI (l.getD p 0) - 48 = nI (10 * a + (l.getD p 0 - 48)) := by
          rw [q_10, q_48, pk_mul, nI_add, pk_sub (by omega)]
          exact congrArg nI (by omega)
        rw [if_neg n1, if_neg n1, if_pos f1, g2 f1, ev, nI_1, nI_1]
        obtain ⟨i1, i2⟩ := ih (t + 1) (10 * a + (l.getD p 0 - 48)) (p + 1) (by omega) (by omega) (by omega)
        rw [show n - (t + 1) = u by omega, if_neg (fun w => by omega)] at i1
        have a1 := pnu_pos (fun i => l.getD i 0) u (10 * a + (l.getD p 0 - 48)) (p + 1)
        rw [i1, if_neg (fun w => by omega)]
        exact ⟨rfl, s2, s2, i2⟩
      · rw [if_pos (g1.mpr f1), if_pos (g1.mpr f1), if_neg f1]
        refine ⟨?_, s2, hv⟩
        by_cases t0 : t = 0
        · subst t0
          rw [if_pos (show nI 0 ≤ 0 by decide), if_pos ⟨rfl, rfl⟩]
        · rw [if_neg (nI_nle (by omega) (by omega)), if_neg (fun w => t0 w.1)]
theorem y_num {l : List Nat} {e : MoV} (hM : MX e.2.2.2.2.2.2.2.2.2.2.2.2.1 e.2.2.2.2.2.2.2.2.2.2.2.2.2.2.1 l) (hl : l.length ≤ 60) (hch : ∀ c ∈ l, c < 128) {n j p : Nat} (hn : 0 < n) (hn3 : n ≤ 3) (hj : j < 93) (hp : p < 2 ^ 29) : f_X10_isNumber (mo15 e (nI p)) (nI n) (nI j) = ((if (pnu (fun i => l.getD i 0) n 0 p).2 = p then 0 else 1), mo15 (mo13 e (upd e.2.2.2.2.2.2.2.2.2.2.2.2.2.1 j (nI (pnu (fun i => l.getD i 0) n 0 p).1))) (nI (pnu (fun i => l.getD i 0) n 0 p).2)) ∧ ok_X10_isNumber (mo15 e (nI p)) (nI n) (nI j) := by
  obtain ⟨a, b⟩ := y_num_lp hM hl hch (mo15 e (nI p)) hn hn3 hj 5 0 0 p (by omega) (by omega) (by omega)
  have z : n - 0 = n := rfl
  rw [z] at a
  refine ⟨?_, b⟩
  show lp_X10_isNumber_5 (mo15 e (nI p)) (nI n) (nI j) 5 (nI 0) (nI 0) (mo15 e (nI p)) = _
  rw [a]
  by_cases f : (pnu (fun i => l.getD i 0) n 0 p).2 = p
  · rw [if_pos ⟨rfl, f⟩, if_pos f]
  · rw [if_neg (fun w => f w.2), if_neg f]
theorem y_word_lp {l : List Nat} {e : MoV} (hM : MX e.2.2.2.2.2.2.2.2.2.2.2.2.1 e.2.2.2.2.2.2.2.2.2.2.2.2.2.2.1 l) (hl : l.length ≤ 60) (hch : ∀ c ∈ l, c < 128) (D : MoV) {p tj : Nat} (hp : p < 2 ^ 29) (ht : tj < 16) : ∀ (n i : Nat), i ≤ (strL.getD tj []).length → (strL.getD tj []).length < n + i →
    lp_X10_isWord_2 D tj n (nI i) (mo15 e (nI (p + i))) = ((if psh (fun i => l.getD i 0) ((strL.getD tj []).drop i) (p + i) = ((strL.getD tj []).drop i).length then 1 else 0), mo15 e (nI (p + i + psh (fun i => l.getD i 0) ((strL.getD tj []).drop i) (p + i)))) ∧ okl_lp_X10_isWord_2 D tj n (nI i) (mo15 e (nI (p + i))) := by
  have hlen := wd_len tj ht
  intro n
  induction n with
  | zero => intro i h1 h2; omega
  | succ n ih =>
    intro i h1 h2
    simp only [lp_X10_isWord_2, okl_lp_X10_isWord_2]
    rw [show f_J0_length_8abf5 tj = nI (strL.getD tj []).length from rfl]
    by_cases f : i = (strL.getD tj []).length
    · rw [if_pos (nI_le (by omega) (by omega)), if_pos (nI_le (by omega) (by omega)), List.drop_eq_nil_of_le (by omega)]
      exact ⟨rfl, trivial⟩
    · obtain ⟨c1, c2⟩ := wd_at ht (i := i) (by omega)
      have c0 := wd_ch0 tj ht i (by omega)
      have c3 := wd_ch tj ht i (by omega)
      obtain ⟨s1, s2⟩ := y_is hM hl hch (p := p + i) (c := (strL.getD tj []).getD i 0) (by omega) c0 c3
      rw [if_neg (nI_ge (by omega) (by omega)), if_neg (nI_ge (by omega) (by omega)), c1, s1, wd_drop (by omega)]
      obtain ⟨i1, i2⟩ := ih (i + 1) (by omega) (by omega)
      by_cases t : l.getD (p + i) 0 = (strL.getD tj []).getD i 0
      · have ps : psh (fun i => l.getD i 0) ((strL.getD tj []).getD i 0 :: (strL.getD tj []).drop (i + 1)) (p + i) = psh (fun i => l.getD i 0) ((strL.getD tj []).drop (i + 1)) (p + i + 1) + 1 := if_pos t
        rw [ps, List.length_cons, if_pos t, if_neg (show ¬ (1 : Int32) = 0 by decide), if_neg (show ¬ (1 : Int32) = 0 by decide), nI_1]
        show lp_X10_isWord_2 D tj n (nI (i + 1)) (mo15 e (nI (p + (i + 1)))) = _ ∧ _
        rw [i1]
        refine ⟨?_, c2, s2, i2⟩
        rw [show p + (i + 1) = p + i + 1 by omega]
        have hb := psh_le (fun i => l.getD i 0) ((strL.getD tj []).drop (i + 1)) (p + i + 1)
        by_cases w : psh (fun i => l.getD i 0) ((strL.getD tj []).drop (i + 1)) (p + i + 1) = ((strL.getD tj []).drop (i + 1)).length
        · rw [if_pos w, if_pos (by omega)]
          exact congrArg (fun v => ((1 : Int32), mo15 e (nI v))) (by omega)
        · rw [if_neg w, if_neg (by omega)]
          exact congrArg (fun v => ((0 : Int32), mo15 e (nI v))) (by omega)
      · have ps : psh (fun i => l.getD i 0) ((strL.getD tj []).getD i 0 :: (strL.getD tj []).drop (i + 1)) (p + i) = 0 := if_neg t
        rw [ps, List.length_cons, if_neg t, if_pos rfl, if_pos rfl, if_neg (by omega)]
        exact ⟨rfl, c2, s2, trivial⟩
theorem y_word {l : List Nat} {e : MoV} (hM : MX e.2.2.2.2.2.2.2.2.2.2.2.2.1 e.2.2.2.2.2.2.2.2.2.2.2.2.2.2.1 l) (hl : l.length ≤ 60) (hch : ∀ c ∈ l, c < 128) {p tj : Nat} (hp : p < 2 ^ 29) (ht : tj < 16) : f_X10_isWord (mo15 e (nI p)) tj = ((if psh (fun i => l.getD i 0) (strL.getD tj []) p = (strL.getD tj []).length then 1 else 0), mo15 e (nI (p + psh (fun i => l.getD i 0) (strL.getD tj []) p))) ∧ ok_X10_isWord (mo15 e (nI p)) tj := by
  have hlen := wd_len tj ht
  exact y_word_lp hM hl hch (mo15 e (nI p)) hp ht 8 0 (by omega) (by omega)
/-! the arguments -/
def YA (e : MoV) (j : Nat) (two : Prop) (a : Bool × Nat × Nat × Nat) (X : Int32 × MoV) : Prop := ∃ m : Nat → Int32, X = ((if a.1 = true then 1 else 0), mo15 (mo13 e m) (nI a.2.2.2)) ∧ (∀ i, i < j + 1 → m i = e.2.2.2.2.2.2.2.2.2.2.2.2.2.1 i) ∧ (a.1 = true → m (j + 1) = nI a.2.1 ∧ (two → m (j + 2) = nI a.2.2.1))
theorem y_one {l : List Nat} {e : MoV} (hM : MX e.2.2.2.2.2.2.2.2.2.2.2.2.1 e.2.2.2.2.2.2.2.2.2.2.2.2.2.2.1 l) (hl : l.length ≤ 60) (hch : ∀ c ∈ l, c < 128) {j p : Nat} (hj : j + 2 < 93) (hp : p < 2 ^ 28) : YA e j False (parN (fun i => l.getD i 0) p) (f_X10_isNumber (mo15 e (nI p)) 3 (nI j + 1)) ∧ ok_X10_isNumber (mo15 e (nI p)) 3 (nI j + 1) := by
  obtain ⟨a, b⟩ := y_num hM hl hch (n := 3) (j := j + 1) (p := p) (by decide) (by decide) (by omega) (by omega)
  rw [nI_1]
  refine ⟨⟨upd e.2.2.2.2.2.2.2.2.2.2.2.2.2.1 (j + 1) (nI (pnu (fun i => l.getD i 0) 3 0 p).1), a.trans ?_, fun i hi => upd_ne _ _ (by omega), fun h => ⟨?_, fun w => w.elim⟩⟩, b⟩
  · unfold parN
    by_cases f : (pnu (fun i => l.getD i 0) 3 0 p).2 = p
    · rw [if_pos f, if_pos f, f]; rfl
    · rw [if_neg f, if_neg f]; rfl
  · unfold parN at h ⊢
    by_cases f : (pnu (fun i => l.getD i 0) 3 0 p).2 = p
    · rw [if_pos f] at h; exact absurd h Bool.false_ne_true
    · rw [if_neg f, upd_eq]
theorem y_pair {l : List Nat} {e : MoV} (hM : MX e.2.2.2.2.2.2.2.2.2.2.2.2.1 e.2.2.2.2.2.2.2.2.2.2.2.2.2.2.1 l) (hl : l.length ≤ 60) (hch : ∀ c ∈ l, c < 128) {j p : Nat} (hj : j + 2 < 93) (hp : p < 2 ^ 28) : YA e j True (parP (fun i => l.getD i 0) p) (f_X10_isPair (mo15 e (nI p)) (nI j)) ∧ ok_X10_isPair (mo15 e (nI p)) (nI j) := by
  have y0 : ((1 : Int32) = 0) = False := eq_false (by decide)
  have pp := pnu_pos (fun i => l.getD i 0) 1 0 p
  obtain ⟨a, b⟩ := y_num hM hl hch (n := 1) (j := j + 1) (p := p) (by decide) (by decide) (by omega) (by omega)
  have hM' : MX (mo13 e (upd e.2.2.2.2.2.2.2.2.2.2.2.2.2.1 (j + 1) (nI (pnu (fun i => l.getD i 0) 1 0 p).1))).2.2.2.2.2.2.2.2.2.2.2.2.1 (mo13 e (upd e.2.2.2.2.2.2.2.2.2.2.2.2.2.1 (j + 1) (nI (pnu (fun i => l.getD i 0) 1 0 p).1))).2.2.2.2.2.2.2.2.2.2.2.2.2.2.1 l := hM
  obtain ⟨a2, b2⟩ := y_num hM' hl hch (n := 1) (j := j + 2) (p := (pnu (fun i => l.getD i 0) 1 0 p).2) (by decide) (by decide) (by omega) (by omega)
  unfold f_X10_isPair ok_X10_isPair parP
  rw [nI_1, q_2, nI_add, q_1, a]
  by_cases f : (pnu (fun i => l.getD i 0) 1 0 p).2 = p
  · simp only [if_pos f, ite_true]
    refine ⟨⟨_, by rw [f]; rfl, fun i hi => upd_ne _ _ (by omega), fun h => absurd h Bool.false_ne_true⟩, b, trivial⟩
  · simp only [if_neg f, show ((nI 1 : Int32) = 0) = False from y0, ite_false]
    simp only [show ((1 : Int32) = 0) = False from y0, ite_false]
    rw [a2]
    by_cases t : (pnu (fun i => l.getD i 0) 1 0 (pnu (fun i => l.getD i 0) 1 0 p).2).2 = (pnu (fun i => l.getD i 0) 1 0 p).2
    · simp only [if_pos t, ite_true]
      refine ⟨⟨_, by rw [t]; rfl, fun i hi => ?_, fun h => absurd h Bool.false_ne_true⟩, b, b2, trivial⟩
      exact (upd_ne _ _ (by omega)).trans (upd_ne _ _ (by omega))
    · simp only [if_neg t, y0, ite_false]
      refine ⟨⟨_, rfl, fun i hi => ?_, fun _ => ⟨?_, fun _ => ?_⟩⟩, b, b2, trivial⟩
      · exact (upd_ne _ _ (by omega)).trans (upd_ne _ _ (by omega))
      · exact (upd_ne _ _ (by omega)).trans (upd_eq _ _ _)
      · exact upd_eq _ _ _
theorem y_dd {l : List Nat} {e : MoV} (hM : MX e.2.2.2.2.2.2.2.2.2.2.2.2.1 e.2.2.2.2.2.2.2.2.2.2.2.2.2.2.1 l) (hl : l.length ≤ 60) (hch : ∀ c ∈ l, c < 128) {j p : Nat} (hj : j + 2 < 93) (hp : p < 2 ^ 28) : YA e j True (parD (fun i => l.getD i 0) p) (f_X10_isDoorDay (mo15 e (nI p)) (nI j)) ∧ ok_X10_isDoorDay (mo15 e (nI p)) (nI j) := by
  have y0 : ((1 : Int32) = 0) = False := eq_false (by decide)
  have pp := pnu_pos (fun i => l.getD i 0) 1 0 p
  obtain ⟨a, b⟩ := y_num hM hl hch (n := 1) (j := j + 1) (p := p) (by decide) (by decide) (by omega) (by omega)
  have hM' : MX (mo13 e (upd e.2.2.2.2.2.2.2.2.2.2.2.2.2.1 (j + 1) (nI (pnu (fun i => l.getD i 0) 1 0 p).1))).2.2.2.2.2.2.2.2.2.2.2.2.1 (mo13 e (upd e.2.2.2.2.2.2.2.2.2.2.2.2.2.1 (j + 1) (nI (pnu (fun i => l.getD i 0) 1 0 p).1))).2.2.2.2.2.2.2.2.2.2.2.2.2.2.1 l := hM
  obtain ⟨a3, b3⟩ := y_is hM' hl hch (p := (pnu (fun i => l.getD i 0) 1 0 p).2) (c := 32) (by omega) (by decide) (by decide)
  obtain ⟨a2, b2⟩ := y_num hM' hl hch (n := 3) (j := j + 2) (p := (pnu (fun i => l.getD i 0) 1 0 p).2 + 1) (by decide) (by decide) (by omega) (by omega)
  unfold f_X10_isDoorDay ok_X10_isDoorDay parD
  rw [nI_1, q_2, nI_add, q_1, q_32, q_3, a]
  by_cases f : (pnu (fun i => l.getD i 0) 1 0 p).2 = p
  · simp only [if_pos f, ite_true]
    refine ⟨⟨_, by rw [f]; rfl, fun i hi => upd_ne _ _ (by omega), fun h => absurd h Bool.false_ne_true⟩, b, trivial⟩
  · simp only [if_neg f, y0, ite_false]
    rw [a3]
    by_cases w : l.getD (pnu (fun i => l.getD i 0) 1 0 p).2 0 = 32
    · simp only [if_pos w, y0, ite_false]
      rw [a2]
      by_cases t : (pnu (fun i => l.getD i 0) 3 0 ((pnu (fun i => l.getD i 0) 1 0 p).2 + 1)).2 = (pnu (fun i => l.getD i 0) 1 0 p).2 + 1
      · simp only [if_pos t, ite_true]
        refine ⟨⟨_, by rw [t]; rfl, fun i hi => ?_, fun h => absurd h Bool.false_ne_true⟩, b, b3, b2, trivial⟩
        exact (upd_ne _ _ (by omega)).trans (upd_ne _ _ (by omega))
      · simp only [if_neg t, y0, ite_false]
        refine ⟨⟨_, rfl, fun i hi => ?_, fun _ => ⟨?_, fun _ => ?_⟩⟩, b, b3, b2, trivial⟩
        · exact (upd_ne _ _ (by omega)).trans (upd_ne _ _ (by omega))
        · exact (upd_ne _ _ (by omega)).trans (upd_eq _ _ _)
        · exact upd_eq _ _ _
    · simp only [if_neg w, ite_true]
      exact ⟨⟨_, rfl, fun i hi => upd_ne _ _ (by omega), fun h => absurd h Bool.false_ne_true⟩, b, b3, trivial⟩
/-- a word, then the arguments -/
theorem y_wa {l : List Nat} {e : MoV} (hM : MX e.2.2.2.2.2.2.2.2.2.2.2.2.1 e.2.2.2.2.2.2.2.2.2.2.2.2.2.2.1 l) (hl : l.length ≤ 60) (hch : ∀ c ∈ l, c < 128) {j p tj k : Nat} {two : Prop} (hp : p < 2 ^ 27) (ht : tj < 16) (F : MoV → Int32 × MoV) (okF : MoV → Prop)
    (hF : ∀ p, p < 2 ^ 28 → YA e j two (par (fun i => l.getD i 0) k p) (F (mo15 e (nI p))) ∧ okF (mo15 e (nI p))) :
    (∃ m : Nat → Int32, (let u : Int32 × MoV := f_X10_isWord (mo15 e (nI p)) tj; (if u.1 = 0 then ((0 : Int32), u.2) else (let v : Int32 × MoV := F u.2; (if v.1 = 0 then ((0 : Int32), v.2) else (1, v.2))))) = ((if (pwa (fun i => l.getD i 0) (pwv (fun i => l.getD i 0) k (strL.getD tj []) p)).1 = true then 1 else 0), mo15 (mo13 e m) (nI (pwa (fun i => l.getD i 0) (pwv (fun i => l.getD i 0) k (strL.getD tj []) p)).2.2.2.2)) ∧ (∀ i, i < j + 1 → m i = e.2.2.2.2.2.2.2.2.2.2.2.2.2.1 i) ∧
      ((pwa (fun i => l.getD i 0) (pwv (fun i => l.getD i 0) k (strL.getD tj []) p)).1 = true → (pwa (fun i => l.getD i 0) (pwv (fun i => l.getD i 0) k (strL.getD tj []) p)).2.1 = k ∧ m (j + 1) = nI (pwa (fun i => l.getD i 0) (pwv (fun i => l.getD i 0) k (strL.getD tj []) p)).2.2.1 ∧ (two → m (j + 2) = nI (pwa (fun i => l.getD i 0) (pwv (fun i => l.getD i 0) k (strL.getD tj []) p)).2.2.2.1))) ∧
    (ok_X10_isWord (mo15 e (nI p)) tj ∧ (let u : Int32 × MoV := f_X10_isWord (mo15 e (nI p)) tj; (if u.1 = 0 then True else okF u.2 ∧ True))) := by
  have y0 : ((1 : Int32) = 0) = False := eq_false (by decide)
  have hlen := wd_len tj ht
  obtain ⟨a, b⟩ := y_word hM hl hch (p := p) (tj := tj) (by omega) ht
  have hs := psh_le (fun i => l.getD i 0) (strL.getD tj []) p
  rw [a]
  unfold pwv
  by_cases f : psh (fun i => l.getD i 0) (strL.getD tj []) p = (strL.getD tj []).length
  · obtain ⟨⟨m, h1, h2, h3⟩, h4⟩ := hF (p + psh (fun i => l.getD i 0) (strL.getD tj []) p) (by omega)
    rw [if_pos f, if_pos f]
    simp only [y0, ite_false, pwa, ite_true]
    rw [h1]
    by_cases t : (par (fun i => l.getD i 0) k (p + psh (fun i => l.getD i 0) (strL.getD tj []) p)).1 = true
    · simp only [if_pos t, y0, ite_false]
      exact ⟨⟨m, rfl, h2, fun _ => ⟨trivial, (h3 t).1, (h3 t).2⟩⟩, b, h4, trivial⟩
    · simp only [if_neg t, ite_true]
      exact ⟨⟨m, rfl, h2, fun w => absurd w t⟩, b, h4, trivial⟩
  · rw [if_neg f, if_neg f]
    simp only [ite_true, pwa]
    exact ⟨⟨e.2.2.2.2.2.2.2.2.2.2.2.2.2.1, rfl, fun _ _ => rfl, fun w => absurd w Bool.false_ne_true⟩, b, trivial⟩
/-! one command -/
def pcd (v : Nat) : Nat := if v = 0 then 103 else if v = 1 then 116 else if v = 2 then 114 else if v = 3 then 111 else if v = 4 then 115 else if v = 5 then 108 else if v = 6 then 109 else 119
def prow (m : Nat → Int32) (k : Nat) (c : Bool × Nat × Nat × Nat × Nat) : Prop := m (3 * k) = nI (pcd c.2.1) ∧ m (3 * k + 1) = nI c.2.2.1 ∧ (c.2.1 ≤ 5 → m (3 * k + 2) = nI c.2.2.2.1)
theorem rest_103 (d : MoV) (j : Int32) : f_X10_readsRest d 103 j = (let u : Int32 × MoV := (f_X10_isWord d 8); (if u.1 = (0 : Int32) then ((0 : Int32), u.2) else (let v : Int32 × MoV := (f_X10_isPair u.2 j); (if v.1 = (0 : Int32) then ((0 : Int32), v.2) else ((1 : Int32), v.2))))) ∧ ok_X10_readsRest d 103 j = (ok_X10_isWord d 8 ∧ (let u : Int32 × MoV := (f_X10_isWord d 8); (if u.1 = (0 : Int32) then True else (ok_X10_isPair u.2 j ∧ True)))) := by
  unfold f_X10_readsRest ok_X10_readsRest
  exact ⟨if_pos rfl, if_pos rfl⟩
theorem rest_111 (d : MoV) (j : Int32) : f_X10_readsRest d 111 j = (let u : Int32 × MoV := (f_X10_isWord d 11); (if u.1 = (0 : Int32) then ((0 : Int32), u.2) else (let v : Int32 × MoV := (f_X10_isDoorDay u.2 j); (if v.1 = (0 : Int32) then ((0 : Int32), v.2) else ((1 : Int32), v.2))))) ∧ ok_X10_readsRest d 111 j = (ok_X10_isWord d 11 ∧ (let u : Int32 × MoV := (f_X10_isWord d 11); (if u.1 = (0 : Int32) then True else (ok_X10_isDoorDay u.2 j ∧ True)))) := by
  unfold f_X10_readsRest ok_X10_readsRest
  exact ⟨(if_neg (by decide)).trans ((if_neg (by decide)).trans ((if_neg (by decide)).trans ((if_neg (by decide)).trans ((if_neg (by decide)).trans ((if_neg (by decide)).trans ((if_neg (by decide)).trans ((if_neg (by decide)).trans (if_pos rfl)))))))), (if_neg (by decide)).trans ((if_neg (by decide)).trans ((if_neg (by decide)).trans ((if_neg (by decide)).trans ((if_neg (by decide)).trans ((if_neg (by decide)).trans ((if_neg (by decide)).trans ((if_neg (by decide)).trans (if_pos rfl))))))))⟩
theorem rest_115 (d : MoV) (j : Int32) : f_X10_readsRest d 115 j = (let u : Int32 × MoV := (f_X10_isWord d 12); (if u.1 = (0 : Int32) then ((0 : Int32), u.2) else (let v : Int32 × MoV := (f_X10_isDoorDay u.2 j); (if v.1 = (0 : Int32) then ((0 : Int32), v.2) else ((1 : Int32), v.2))))) ∧ ok_X10_readsRest d 115 j = (ok_X10_isWord d 12 ∧ (let u : Int32 × MoV := (f_X10_isWord d 12); (if u.1 = (0 : Int32) then True else (ok_X10_isDoorDay u.2 j ∧ True)))) := by
  unfold f_X10_readsRest ok_X10_readsRest
  exact ⟨(if_neg (by decide)).trans ((if_neg (by decide)).trans ((if_neg (by decide)).trans ((if_neg (by decide)).trans ((if_neg (by decide)).trans ((if_neg (by decide)).trans ((if_neg (by decide)).trans ((if_neg (by decide)).trans ((if_neg (by decide)).trans ((if_neg (by decide)).trans ((if_neg (by decide)).trans ((if_neg (by decide)).trans (if_pos rfl)))))))))))), (if_neg (by decide)).trans ((if_neg (by decide)).trans ((if_neg (by decide)).trans ((if_neg (by decide)).trans ((if_neg (by decide)).trans ((if_neg (by decide)).trans ((if_neg (by decide)).trans ((if_neg (by decide)).trans ((if_neg (by decide)).trans ((if_neg (by decide)).trans ((if_neg (by decide)).trans ((if_neg (by decide)).trans (if_pos rfl))))))))))))⟩
theorem rest_108 (d : MoV) (j : Int32) : f_X10_readsRest d 108 j = (let u : Int32 × MoV := (f_X10_isWord d 13); (if u.1 = (0 : Int32) then ((0 : Int32), u.2) else (let v : Int32 × MoV := (f_X10_isDoorDay u.2 j); (if v.1 = (0 : Int32) then ((0 : Int32), v.2) else ((1 : Int32), v.2))))) ∧ ok_X10_readsRest d 108 j = (ok_X10_isWord d 13 ∧ (let u : Int32 × MoV := (f_X10_isWord d 13); (if u.1 = (0 : Int32) then True else (ok_X10_isDoorDay u.2 j ∧ True)))) := by
  unfold f_X10_readsRest ok_X10_readsRest
  exact ⟨(if_neg (by decide)).trans ((if_neg (by decide)).trans ((if_neg (by decide)).trans ((if_neg (by decide)).trans ((if_neg (by decide)).trans (if_pos rfl))))), (if_neg (by decide)).trans ((if_neg (by decide)).trans ((if_neg (by decide)).trans ((if_neg (by decide)).trans ((if_neg (by decide)).trans (if_pos rfl)))))⟩
theorem rest_109 (d : MoV) (j : Int32) : f_X10_readsRest d 109 j = (let u : Int32 × MoV := (f_X10_isWord d 14); (if u.1 = (0 : Int32) then ((0 : Int32), u.2) else (let v : Int32 × MoV := (f_X10_isNumber u.2 (3 : Int32) (j + (1 : Int32))); (if v.1 = (0 : Int32) then ((0 : Int32), v.2) else ((1 : Int32), v.2))))) ∧ ok_X10_readsRest d 109 j = (ok_X10_isWord d 14 ∧ (let u : Int32 × MoV := (f_X10_isWord d 14); (if u.1 = (0 : Int32) then True else (ok_X10_isNumber u.2 (3 : Int32) (j + (1 : Int32)) ∧ True)))) := by
  unfold f_X10_readsRest ok_X10_readsRest
  exact ⟨(if_neg (by decide)).trans ((if_neg (by decide)).trans ((if_neg (by decide)).trans ((if_neg (by decide)).trans ((if_neg (by decide)).trans ((if_neg (by decide)).trans (if_pos rfl)))))), (if_neg (by decide)).trans ((if_neg (by decide)).trans ((if_neg (by decide)).trans ((if_neg (by decide)).trans ((if_neg (by decide)).trans ((if_neg (by decide)).trans (if_pos rfl))))))⟩
theorem rest_119 (d : MoV) (j : Int32) : f_X10_readsRest d 119 j = (let u : Int32 × MoV := (f_X10_isWord d 15); (if u.1 = (0 : Int32) then ((0 : Int32), u.2) else (let v : Int32 × MoV := (f_X10_isNumber u.2 (3 : Int32) (j + (1 : Int32))); (if v.1 = (0 : Int32) then ((0 : Int32), v.2) else ((1 : Int32), v.2))))) ∧ ok_X10_readsRest d 119 j = (ok_X10_isWord d 15 ∧ (let u : Int32 × MoV := (f_X10_isWord d 15); (if u.1 = (0 : Int32) then True else (ok_X10_isNumber u.2 (3 : Int32) (j + (1 : Int32)) ∧ True)))) := by
  unfold f_X10_readsRest ok_X10_readsRest
  exact ⟨(if_neg (by decide)).trans ((if_neg (by decide)).trans ((if_neg (by decide)).trans ((if_neg (by decide)).trans ((if_neg (by decide)).trans ((if_neg (by decide)).trans ((if_neg (by decide)).trans ((if_neg (by decide)).trans ((if_neg (by decide)).trans ((if_neg (by decide)).trans ((if_neg (by decide)).trans ((if_neg (by decide)).trans ((if_neg (by decide)).trans ((if_neg (by decide)).trans (rfl)))))))))))))), (if_neg (by decide)).trans ((if_neg (by decide)).trans ((if_neg (by decide)).trans ((if_neg (by decide)).trans ((if_neg (by decide)).trans ((if_neg (by decide)).trans ((if_neg (by decide)).trans ((if_neg (by decide)).trans ((if_neg (by decide)).trans ((if_neg (by decide)).trans ((if_neg (by decide)).trans ((if_neg (by decide)).trans ((if_neg (by decide)).trans ((if_neg (by decide)).trans (rfl))))))))))))))⟩
theorem rest_116 (d : MoV) (j : Int32) : f_X10_readsRest d 116 j = f_X10_readsT d j ∧ ok_X10_readsRest d 116 j = (ok_X10_readsT d j ∧ True) := by
  unfold f_X10_readsRest ok_X10_readsRest
  exact ⟨(if_neg (by decide)).trans ((if_neg (by decide)).trans ((if_neg (by decide)).trans ((if_neg (by decide)).trans ((if_neg (by decide)).trans ((if_neg (by decide)).trans ((if_neg (by decide)).trans ((if_neg (by decide)).trans ((if_neg (by decide)).trans ((if_neg (by decide)).trans ((if_neg (by decide)).trans ((if_neg (by decide)).trans ((if_neg (by decide)).trans (if_pos rfl))))))))))))), (if_neg (by decide)).trans ((if_neg (by decide)).trans ((if_neg (by decide)).trans ((if_neg (by decide)).trans ((if_neg (by decide)).trans ((if_neg (by decide)).trans ((if_neg (by decide)).trans ((if_neg (by decide)).trans ((if_neg (by decide)).trans ((if_neg (by decide)).trans ((if_neg (by decide)).trans ((if_neg (by decide)).trans ((if_neg (by decide)).trans (if_pos rfl)))))))))))))⟩
