/-! ===== hours pass ===== -/
def dbF (s : Nat → Int32) : Nat → Int32 := fun q => if 137 ≤ q ∧ q < 249 then s (q - 16) else if 121 ≤ q ∧ q < 137 then 0 else s q
theorem db_in (d dL : MoV) (y : Int32) (u : MoV) (s0 : Nat → Int32) : ∀ (n x : Nat) (g : Nat → Int32), x + n = 138 → 121 ≤ x → (∀ q, g q = if 121 ≤ q ∧ q < x then 0 else s0 q) → okl_lp_X10_dayBegins_35 d y dL n (nI x) (mo0 u g) ∧ (1 ≤ n → (lp_X10_dayBegins_35 d y dL n (nI x) (mo0 u g)).2 = mo0 u (fun q => if 121 ≤ q ∧ q < 137 then 0 else s0 q)) := by
  intro n
  induction n with
  | zero => intro x g _ _ _; exact ⟨trivial, fun h => absurd h (by decide)⟩
  | succ n ih =>
    intro x g hx h1 hg
    show (if (137 : Int32) ≤ nI x then True else (vp_in (nI x) 249 ∧ okl_lp_X10_dayBegins_35 d y dL n (nI x + 1) (mo0 u (upd g (nI x).toNatClampNeg 0)))) ∧ (_ → (if (137 : Int32) ≤ nI x then (nI x, mo0 u g) else lp_X10_dayBegins_35 d y dL n (nI x + 1) (mo0 u (upd g (nI x).toNatClampNeg 0))).2 = _)
    rw [show (137 : Int32) = nI 137 from rfl]
    by_cases h : 137 ≤ x
    · rw [if_pos (nI_le h (by omega)), if_pos (nI_le h (by omega))]
      refine ⟨trivial, fun _ => ?_⟩
      have : g = fun q => if 121 ≤ q ∧ q < 137 then 0 else s0 q := by
        funext q
        rw [hg q, show x = 137 by omega]
      rw [this]
    · rw [if_neg (nI_ge (by omega) (by decide)), if_neg (nI_ge (by omega) (by decide)), nI_1, nI_clamp (by omega)]
      have := ih (x + 1) (upd g x 0) (by omega) (by omega) (fun q => by
        by_cases e : q = x
        · subst e
          rw [upd_eq, if_pos (by omega)]
        · rw [upd_ne _ _ e, hg]
          by_cases g2 : 121 ≤ q ∧ q < x
          · rw [if_pos g2, if_pos (by omega)]
          · rw [if_neg g2, if_neg (by omega)])
      exact ⟨⟨in_lit _ (by omega), this.1⟩, fun _ => this.2 (by omega)⟩
theorem db_out (d u : MoV) (s : Nat → Int32) : ∀ (n x : Nat) (g : Nat → Int32), x = 135 + n → x ≤ 248 → 1 ≤ n → (∀ q, g q = if x < q ∧ q < 249 then s (q - 16) else s q) → lp_X10_dayBegins_4 d n (nI x) (mo0 u g) = mo0 u (dbF s) ∧ okl_lp_X10_dayBegins_4 d n (nI x) (mo0 u g) := by
  intro n
  induction n with
  | zero => intro x g _ _ h; exact absurd h (by decide)
  | succ n ih =>
    intro x g hx h1 _ hg
    show (if nI x < (137 : Int32) then (lp_X10_dayBegins_35 d (nI x) (mo0 u g) 17 (nI 121) (mo0 u g)).2 else lp_X10_dayBegins_4 d n (nI x + (-1)) (mo0 u (upd g (nI x).toNatClampNeg (g (nI x - 16).toNatClampNeg)))) = _ ∧ (if nI x < (137 : Int32) then (okl_lp_X10_dayBegins_35 d (nI x) (mo0 u g) 17 (nI 121) (mo0 u g) ∧ True) else (vp_in (nI x - 16) 249 ∧ (vp_in (nI x) 249 ∧ okl_lp_X10_dayBegins_4 d n (nI x + (-1)) (mo0 u (upd g (nI x).toNatClampNeg (g (nI x - 16).toNatClampNeg))))))
    rw [show (137 : Int32) = nI 137 from rfl]
    by_cases h : x < 137
    · obtain ⟨a1, a2⟩ := db_in d (mo0 u g) (nI x) u g 17 121 g (by decide) (by decide) (fun q => by rw [if_neg (by omega)])
      rw [if_pos (nI_lt h (by decide)), if_pos (nI_lt h (by decide)), a2 (by decide)]
      refine ⟨?_, a1, trivial⟩
      have : (fun q => if 121 ≤ q ∧ q < 137 then 0 else g q) = dbF s := by
        funext q
        unfold dbF
        by_cases e : 121 ≤ q ∧ q < 137
        · rw [if_pos e, if_neg (by omega), if_pos e]
        · rw [if_neg e, hg q]
          by_cases e2 : x < q ∧ q < 249
          · rw [if_pos e2, if_pos (by omega)]
          · rw [if_neg e2, if_neg (by omega), if_neg e]
      rw [this]
    · have ex : nI x + (-1) = nI (x - 1) := sb_m1 (by omega)
      rw [if_neg (nI_nlt (by omega) (by omega)), if_neg (nI_nlt (by omega) (by omega)), ex, show (16 : Int32) = nI 16 from rfl, pk_sub (by omega), nI_clamp (by omega), nI_clamp (by omega)]
      have := ih (x - 1) (upd g x (g (x - 16))) (by omega) (by omega) (by omega) (fun q => by
        by_cases e : q = x
        · subst e
          rw [upd_eq, hg, if_neg (by omega), if_pos (by omega)]
        · rw [upd_ne _ _ e, hg]
          by_cases g2 : x < q ∧ q < 249
          · rw [if_pos g2, if_pos (by omega)]
          · rw [if_neg g2, if_neg (by omega)])
      exact ⟨this.1, in_lit _ (by omega), in_lit _ (by omega), this.2⟩
theorem m_dayB (u : MoV) (s : Nat → Int32) : f_X10_dayBegins (mo0 u s) = mo0 u (dbF s) ∧ ok_X10_dayBegins (mo0 u s) := by
  have := db_out (mo0 u s) u s 113 248 s (by decide) (by decide) (by decide) (fun q => by rw [if_neg (by omega)])
  exact this
/-- days t0 + 1 .. t0 + D begin: their slots are emptied -/
def clF (f : Nat → Int32) (t0 D : Nat) : Nat → Int32 := fun q => if q < 64 ∧ (q % 8 + 8 - (t0 + 1) % 8) % 8 < D then 0 else f q
theorem clF_0 (f : Nat → Int32) (t0 : Nat) : clF f t0 0 = f := by
  funext q
  unfold clF
  rw [if_neg (by omega)]
theorem clF_8 (f : Nat → Int32) (t0 : Nat) {D : Nat} (h : 8 ≤ D) : clF f t0 8 = clF f t0 D := by
  funext q
  unfold clF
  by_cases e : q < 64
  · have : (q % 8 + 8 - (t0 + 1) % 8) % 8 < 8 := Nat.mod_lt _ (by decide)
    rw [if_pos ⟨e, this⟩, if_pos ⟨e, by omega⟩]
  · rw [if_neg (fun g => e g.1), if_neg (fun g => e g.1)]
def clV (v : AuV) (t0 D : Nat) : AuV := (v.1, clF v.2.1 t0 D, clF v.2.2.1 t0 D, v.2.2.2.1, v.2.2.2.2.1, v.2.2.2.2.2.1, v.2.2.2.2.2.2)
theorem cb_in (d : AuV) (d0 d1 : Int32) (x3 : Int32) (dL : AuV) {y : Nat} (hy : d0 + x3 = nI y) (hy2 : y < 2 ^ 31) (w : AuV) : ∀ (n x : Nat) (f g : Nat → Int32), x + n = 9 → (∀ q, f q = if q % 8 = y % 8 ∧ q < 8 * x then 0 else w.2.1 q) → (∀ q, g q = if q % 8 = y % 8 ∧ q < 8 * x then 0 else w.2.2.1 q) → 1 ≤ n →
    (lp_X0_beginDays_18 d d0 d1 x3 dL n (nI x) (w.1, f, g, w.2.2.2.1, w.2.2.2.2.1, w.2.2.2.2.2.1, w.2.2.2.2.2.2)).2 = (w.1, (fun q => if q % 8 = y % 8 ∧ q < 64 then 0 else w.2.1 q), (fun q => if q % 8 = y % 8 ∧ q < 64 then 0 else w.2.2.1 q), w.2.2.2.1, w.2.2.2.2.1, w.2.2.2.2.2.1, w.2.2.2.2.2.2) := by
  intro n
  induction n with
  | zero => intro x f g _ _ _ h; exact absurd h (by decide)
  | succ n ih =>
    intro x f g hx hf hg _
    show (if (8 : Int32) ≤ nI x then (nI x, (w.1, f, g, w.2.2.2.1, w.2.2.2.2.1, w.2.2.2.2.2.1, w.2.2.2.2.2.2)) else lp_X0_beginDays_18 d d0 d1 x3 dL n (nI x + 1) (w.1, f_X7_put 64 f (f_X0_slotOf (nI x) (d0 + x3)) 0, f_X7_put 64 g (f_X0_slotOf (nI x) (d0 + x3)) 0, w.2.2.2.1, w.2.2.2.2.1, w.2.2.2.2.2.1, w.2.2.2.2.2.2)).2 = _
    rw [q_8]
    by_cases h : 8 ≤ x
    · rw [if_pos (nI_le h (by omega))]
      have hx8 : x = 8 := by omega
      subst hx8
      have e1 : f = (fun q => if q % 8 = y % 8 ∧ q < 64 then 0 else w.2.1 q) := funext hf
      have e2 : g = (fun q => if q % 8 = y % 8 ∧ q < 64 then 0 else w.2.2.1 q) := funext hg
      rw [e1, e2]
    · have m8 : y % 8 < 8 := Nat.mod_lt _ (by decide)
      have es : f_X0_slotOf (nI x) (d0 + x3) = nI (x * 8 + y % 8) := by
        unfold f_X0_slotOf
        rw [hy, q_8, n_fm hy2 (by decide) (by decide), pk_mul, nI_add]
      have stp : ∀ (k w : Nat → Int32), (∀ q, k q = if q % 8 = y % 8 ∧ q < 8 * x then 0 else w q) → ∀ q, upd k (x * 8 + y % 8) 0 q = if q % 8 = y % 8 ∧ q < 8 * (x + 1) then 0 else w q := fun k w hk q => by
        by_cases e : q = x * 8 + y % 8
        · subst e
          rw [upd_eq, if_pos (by omega)]
        · rw [upd_ne _ _ e, hk]
          by_cases g2 : q % 8 = y % 8 ∧ q < 8 * x
          · rw [if_pos g2, if_pos (by omega)]
          · rw [if_neg g2, if_neg (by omega)]
      rw [if_neg (nI_ge (by omega) (by decide)), es, n_put _ _ (by omega) (by decide), n_put _ _ (by omega) (by decide), nI_1]
      exact ih (x + 1) _ _ (by omega) (stp f w.2.1 hf) (stp g w.2.2.1 hg) (by omega)
theorem clF_s (f : Nat → Int32) (t0 : Nat) {i : Nat} (hi : 1 ≤ i) (hi8 : i ≤ 8) : (fun q => if q % 8 = (t0 + i) % 8 ∧ q < 64 then 0 else clF f t0 (i - 1) q) = clF f t0 i := by
  funext q
  unfold clF
  by_cases e : q % 8 = (t0 + i) % 8 ∧ q < 64
  · rw [if_pos e, if_pos (by omega)]
  · rw [if_neg e]
    by_cases g : q < 64 ∧ (q % 8 + 8 - (t0 + 1) % 8) % 8 < i - 1
    · rw [if_pos g, if_pos (by omega)]
    · rw [if_neg g, if_neg (by omega)]
theorem cb_out (v : AuV) {t0 D : Nat} (ht : t0 + D < 2 ^ 30) : ∀ (n i : Nat), i + n = 10 → 1 ≤ i → i ≤ D + 1 → 1 ≤ n → lp_X0_beginDays_2 v (nI t0) (nI (t0 + D)) n (nI i) (clV v t0 (i - 1)) = clV v t0 D := by
  intro n
  induction n with
  | zero => intro i _ _ _ h; exact absurd h (by decide)
  | succ n ih =>
    intro i hi h1 hD _
    show (if (8 : Int32) < nI i then clV v t0 (i - 1) else if nI (t0 + D) - nI t0 < nI i then clV v t0 (i - 1) else lp_X0_beginDays_2 v (nI t0) (nI (t0 + D)) n (nI i + 1) (lp_X0_beginDays_18 v (nI t0) (nI (t0 + D)) (nI i) (clV v t0 (i - 1)) 9 (nI 0) (clV v t0 (i - 1))).2) = _
    rw [q_8, pk_sub (by omega), show t0 + D - t0 = D by omega]
    by_cases h8 : 8 < i
    · rw [if_pos (nI_lt h8 (by omega))]
      have : i = 9 := by omega
      subst this
      unfold clV
      rw [show 9 - 1 = 8 from rfl, clF_8 _ _ (show 8 ≤ D by omega), clF_8 _ _ (show 8 ≤ D by omega)]
    · rw [if_neg (nI_nlt (by omega) (by decide))]
      by_cases hDi : D < i
      · rw [if_pos (nI_lt hDi (by omega)), show i - 1 = D by omega]
      · rw [if_neg (nI_nlt (by omega) (by omega)), nI_1]
        have a := cb_in v (nI t0) (nI (t0 + D)) (nI i) (clV v t0 (i - 1)) (y := t0 + i) (nI_add _ _) (by omega) (clV v t0 (i - 1)) 9 0 (clV v t0 (i - 1)).2.1 (clV v t0 (i - 1)).2.2.1 (by decide) (fun q => by rw [if_neg (by omega)]) (fun q => by rw [if_neg (by omega)]) (by decide)
        have a : (lp_X0_beginDays_18 v (nI t0) (nI (t0 + D)) (nI i) (clV v t0 (i - 1)) 9 (nI 0) (clV v t0 (i - 1))).2 = clV v t0 i := by
          refine a.trans ?_
          unfold clV
          rw [← clF_s v.2.1 t0 h1 (by omega), ← clF_s v.2.2.1 t0 h1 (by omega)]
        rw [a]
        have := ih (i + 1) (by omega) (by omega) (by omega) (by omega)
        rw [show i + 1 - 1 = i by omega] at this
        exact this
theorem c_begin (v : AuV) {t0 D : Nat} (ht : t0 + D < 2 ^ 30) : f_X0_beginDays v (nI t0) (nI (t0 + D)) = clV v t0 D := by
  have := cb_out v ht 9 1 (by decide) (by decide) (by omega) (by decide)
  have e : clV v t0 (1 - 1) = v := by
    unfold clV
    rw [show 1 - 1 = 0 from rfl, clF_0, clF_0]
  rw [e] at this
  exact this
theorem RA.day {B t0 D : Nat} {v : AuV} {s : Nat → Int32} (h : RA B (t0 + D) (clV v t0 D) s) : RA B (t0 + D + 1) (clV v t0 (D + 1)) (dbF s) := by
  obtain ⟨n, q1, q2, q3, q4, q5, q6, q7⟩ := h
  have f1 : ∀ q, q < 121 → dbF s q = s q := fun q hq => by
    unfold dbF
    rw [if_neg (by omega), if_neg (by omega)]
  have f2 : ∀ q, 137 ≤ q → q < 249 → dbF s q = s (q - 16) := fun q h1 h2 => if_pos ⟨h1, h2⟩
  have f3 : ∀ q, 121 ≤ q → q < 137 → dbF s q = 0 := fun q h1 h2 => by
    unfold dbF
    rw [if_neg (by omega), if_pos ⟨h1, h2⟩]
  refine ⟨n, q1, q2, by rw [f1 _ (by omega)]; exact q3, by rw [f1 _ (by omega), f1 _ (by omega), f1 _ (by omega), f1 _ (by omega), f1 _ (by omega)]; exact q4, fun r hr => by rw [f1 _ (by omega)]; exact q5 r hr, fun i hi => by rw [f1 _ (by omega), f1 _ (by omega), f1 _ (by omega)]; exact q6 i hi, fun a ha r hr => ?_⟩
  have hc : ∀ (f : Nat → Int32), 1 ≤ a → a ≤ t0 + D + 1 → clF f t0 (D + 1) (r * 8 + (t0 + D + 1 - a) % 8) = clF f t0 D (r * 8 + (t0 + D - (a - 1)) % 8) := fun f h1 h2 => by
    rw [show t0 + D + 1 - a = t0 + D - (a - 1) by omega]
    unfold clF
    by_cases e : r * 8 + (t0 + D - (a - 1)) % 8 < 64 ∧ ((r * 8 + (t0 + D - (a - 1)) % 8) % 8 + 8 - (t0 + 1) % 8) % 8 < D
    · rw [if_pos e, if_pos (by omega)]
    · rw [if_neg e, if_neg (by omega)]
  have hz : ∀ (f : Nat → Int32), clF f t0 (D + 1) (r * 8 + (t0 + D + 1 - 0) % 8) = 0 := fun f => by
    unfold clF
    rw [if_pos (by omega)]
  by_cases e : a = 0
  · subst e
    rw [f3 _ (by omega) (by omega), f3 _ (by omega) (by omega)]
    exact ⟨fun _ => ⟨(hz v.2.1).symm, (hz v.2.2.1).symm⟩, fun h => by omega⟩
  · rw [f2 _ (by omega) (by omega), f2 _ (by omega) (by omega), show 121 + 2 * (8 * a + r) - 16 = 121 + 2 * (8 * (a - 1) + r) by omega, show 121 + 2 * (8 * a + r) + 1 - 16 = 121 + 2 * (8 * (a - 1) + r) + 1 by omega]
    obtain ⟨w1, w2⟩ := q7 (a - 1) (by omega) r hr
    refine ⟨fun hat => ?_, fun hat => w2 (by omega)⟩
    show _ = clF v.2.1 t0 (D + 1) _ ∧ _ = clF v.2.2.1 t0 (D + 1) _
    rw [hc _ (by omega) hat, hc _ (by omega) hat]
    exact w1 (by omega)
theorem w_lp {B : Nat} (d0 u4 u : MoV) {t h : Nat} (hh : h ≤ 240) (ht : t < 2 ^ 29) (v : AuV) (s : Nat → Int32) : ∀ (n j : Nat) (g : Nat → Int32), j + n = h + 1 → g 0 = nI (t + j) → (∀ q, q ≠ 0 → q < 5 ∨ 11 ≤ q ∧ q < 91 → g q = s q) → RA B (t / 24 + ((t + j) / 24 - t / 24)) (clV v (t / 24) ((t + j) / 24 - t / 24)) g → 1 ≤ n →
    ∃ g', lp_X10_waits_28 d0 (nI h) u4 n (nI j) (mo0 u g) = (nI ((t + h) / 24), mo0 u g') ∧ okl_lp_X10_waits_28 d0 (nI h) u4 n (nI j) (mo0 u g) ∧ g' 0 = nI (t + h) ∧ (∀ q, q ≠ 0 → q < 5 ∨ 11 ≤ q ∧ q < 91 → g' q = s q) ∧ RA B (t / 24 + ((t + h) / 24 - t / 24)) (clV v (t / 24) ((t + h) / 24 - t / 24)) g' := by
  intro n
  induction n with
  | zero => intro j g _ _ _ _ h; exact absurd h (by decide)
  | succ n ih =>
    intro j g hj h0 hf hA _
    have a1 : upd g 0 (g 0 + 1) 0 = nI (t + j + 1) := by rw [upd_eq, h0, nI_1]
    have r1 : nI (t + j + 1) - nI (t + j + 1) / 24 * 24 = nI ((t + j + 1) % 24) := by rw [q_24]; exact n_rem (by omega) (by decide) (by decide)
    have td : f_X10_today (mo0 u g) = nI ((t + j) / 24) := m_today (d := mo0 u g) h0 (by omega)
    unfold lp_X10_waits_28 okl_lp_X10_waits_28
    simp only [show ((0 : Int32).toNatClampNeg) = 0 from rfl, a1, r1]
    by_cases hjh : h ≤ j
    · have : j = h := by omega
      subst this
      rw [if_pos (nI_le hjh (by omega)), if_pos (nI_le hjh (by omega)), td]
      exact ⟨g, rfl, trivial, h0, hf, hA⟩
    · rw [if_neg (nI_ge (by omega) (by omega)), if_neg (nI_ge (by omega) (by omega)), h0, nI_1, nI_1]
      have hf' : ∀ q, q ≠ 0 → q < 5 ∨ 11 ≤ q ∧ q < 91 → upd g 0 (nI (t + j + 1)) q = s q := fun q h1 h2 => by rw [upd_ne _ _ h1]; exact hf q h1 h2
      have hA' : RA B (t / 24 + ((t + j) / 24 - t / 24)) (clV v (t / 24) ((t + j) / 24 - t / 24)) (upd g 0 (nI (t + j + 1))) := hA.congr (fun q hq => upd_ne _ _ (by omega))
      by_cases hd : (t + j + 1) % 24 = 0
      · rw [if_pos (show nI ((t + j + 1) % 24) = 0 by rw [hd]; rfl), if_pos (show nI ((t + j + 1) % 24) = 0 by rw [hd]; rfl)]
        obtain ⟨b1, b2⟩ := m_dayB u (upd g 0 (nI (t + j + 1)))
        have b1 : f_X10_dayBegins (mo0 (mo0 u g) (upd g 0 (nI (t + j + 1)))) = mo0 u (dbF (upd g 0 (nI (t + j + 1)))) := b1
        have b2 : ok_X10_dayBegins (mo0 (mo0 u g) (upd g 0 (nI (t + j + 1)))) := b2
        have f1 : ∀ q, q < 121 → dbF (upd g 0 (nI (t + j + 1))) q = upd g 0 (nI (t + j + 1)) q := fun q hq => by
          unfold dbF
          rw [if_neg (by omega), if_neg (by omega)]
        have hA2 := hA'.day
        rw [show t / 24 + ((t + j) / 24 - t / 24) + 1 = t / 24 + ((t + (j + 1)) / 24 - t / 24) by omega, show (t + j) / 24 - t / 24 + 1 = (t + (j + 1)) / 24 - t / 24 by omega] at hA2
        obtain ⟨g', k1, k2, k3⟩ := ih (j + 1) (dbF (upd g 0 (nI (t + j + 1)))) (by omega) (by rw [f1 0 (by decide), upd_eq]; rfl) (fun q h1 h2 => by rw [f1 q (by omega)]; exact hf' q h1 h2) hA2 (by omega)
        rw [b1]
        exact ⟨g', k1, ⟨b2, k2⟩, k3⟩
      · have nz : ¬ nI ((t + j + 1) % 24) = 0 := nI_ne0 (by omega) (by omega)
        rw [if_neg nz, if_neg nz]
        rw [show (t + j) / 24 = (t + (j + 1)) / 24 by omega] at hA'
        exact ih (j + 1) (upd g 0 (nI (t + j + 1))) (by omega) (upd_eq _ _ _) hf' hA' (by omega)
theorem C_waits {B : Nat} {v : StV} {d : MoV} (h : RS B v d.1) (hB : B < 2 ^ 29) (x : Int32) : CORE (B + 240) (f_X8_faultOfWaiting x) (f_X8_passHours v x) ["java/lang/IllegalArgumentException"] (ok_X10_waits d x) (f_X10_waits d x) d := by
  obtain ⟨t, c, ht, hc, hc2, e1, e2, e3, e4, hD, hE, hP, hA⟩ := id h
  unfold CORE f_X8_faultOfWaiting ok_X10_waits f_X10_waits
  rcases g_rng x 1 240 with ⟨r1, r2⟩ | ⟨r1, r2, r3, r4⟩
  · have e : (if x < 1 then 2 else if x ≤ 240 then 0 else 2 : Nat) = 2 := by
      unfold f_X9_requireRange at r1
      by_cases h1 : x < 1
      · rw [if_pos h1]
      · rw [if_neg h1] at r1 ⊢
        by_cases h2 : x ≤ 240
        · rw [if_pos h2] at r1; exact absurd r1 (by decide)
        · rw [if_neg h2]
    simp only [e, r2, eq_self, ite_true, m_thr1]
    exact ⟨trivial, Or.inl ⟨0, by decide, by decide, rfl, by decide, rfl⟩⟩
  · obtain ⟨k, h1, h2, rfl⟩ := g_nat (lo := 1) (n := 240) (by decide) (by decide) r3 r4
    have hA0 : RA (B + 240) (t / 24 + ((t + 0) / 24 - t / 24)) (clV v.2.2.2.2.2 (t / 24) ((t + 0) / 24 - t / 24)) d.1 := by
      rw [show (t + 0) / 24 - t / 24 = 0 by omega]
      unfold clV
      rw [clF_0, clF_0]
      obtain ⟨n, q1, q2⟩ := hA
      exact ⟨n, by omega, q2⟩
    obtain ⟨g', k1, k2, k3, k4, k5⟩ := w_lp d (mo5 d 0) (mo5 d 0) h2 (show t < 2 ^ 29 by omega) v.2.2.2.2.2 d.1 (k + 1) 0 d.1 (by omega) e2 (fun q _ _ => rfl) hA0 (by omega)
    have k1 : lp_X10_waits_28 d (nI k) (mo5 d 0) (k + 1) 0 (mo5 d 0) = (nI ((t + k) / 24), mo0 (mo5 d 0) g') := k1
    have k2 : okl_lp_X10_waits_28 d (nI k) (mo5 d 0) (k + 1) 0 (mo5 d 0) := k2
    rw [if_neg r3, if_pos r4]
    have ef : ((nI k).toInt - (0 : Int32).toInt).toNat + 1 = k + 1 := by
      rw [nI_toInt (by omega), show (0 : Int32).toInt = 0 from rfl]; omega
    simp only [r2, L10, ite_false, m_thr0, ef, k1]
    refine ⟨k2, Or.inr ⟨trivial, g', ?_, ?_⟩⟩
    · have : (f_X8_passHours v (nI k)).1 = nI ((t + k) / 24) := by
        unfold f_X8_passHours
        exact c_today (by show v.1 + nI k = nI (t + k); rw [e1, nI_add]) (by omega)
      rw [this]
    · have ed : t / 24 + ((t + k) / 24 - t / 24) = (t + k) / 24 := by omega
      have ea : (f_X8_passHours v (nI k)).2 = (nI (t + k), v.2.1, v.2.2.1, v.2.2.2.1, v.2.2.2.2.1, clV v.2.2.2.2.2 (t / 24) ((t + k) / 24 - t / 24)) := by
        unfold f_X8_passHours
        have c1 : f_X8_today v = nI (t / 24) := c_today e1 (by omega)
        have c2 : f_X8_today (v.1 + nI k, v.2.1, v.2.2.1, v.2.2.2.1, v.2.2.2.2.1, v.2.2.2.2.2) = nI (t / 24 + ((t + k) / 24 - t / 24)) := by
          rw [ed]
          exact c_today (by show v.1 + nI k = nI (t + k); rw [e1, nI_add]) (by omega)
        simp only [c1, c2]
        rw [c_begin _ (by omega), e1, nI_add]
      rw [ea]
      rw [ed] at k5
      refine ⟨t + k, c, by omega, hc, hc2, rfl, k3, e3, (k4 1 (by decide) (by omega)).trans e4, hD.congr (fun q hq => k4 q (by omega) (by omega)), hE.congr (fun q hq => k4 q (by omega) (by omega)), ?_, k5⟩
      obtain ⟨n, p1, p2, p3, p4⟩ := hP
      refine ⟨n, p1, p2, (k4 3 (by decide) (by omega)).trans p3, fun j hj => ?_⟩
      obtain ⟨a, en, w1, w2, w3, w4, w5, w6⟩ := p4 j hj
      exact ⟨a, en, w1, by omega, w3, w4, (k4 _ (by omega) (by omega)).trans w5, (k4 _ (by omega) (by omega)).trans w6⟩
