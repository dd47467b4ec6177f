/-! ===== a program typed and executed ===== -/
variable {dn : Nat}
theorem clr_0 {pg : PrV} {tb : SbV} {l : List Nat} (h : TX tb l) : (f_X6_clear pg tb).2.2.2 = 0 := (tx_clear h).2.2.2.1
theorem cc_lp (q : PrV) (sb : SbV) (u : PrV) : ∀ (n c : Nat) (p : PrV), c + n ≤ 100 → (lp_X6_countCommands_6 q sb u n (nI c) p).1 = -1 ∨ ∃ j : Nat, j < 2 ^ 30 ∧ (lp_X6_countCommands_6 q sb u n (nI c) p).1 = nI j := by
  intro n
  induction n with
  | zero => intro c p _; exact Or.inr ⟨0, by decide, rfl⟩
  | succ n ih =>
    intro c p h
    have e : lp_X6_countCommands_6 q sb u (n + 1) (nI c) p = if (60 : Int32) < nI c then ((-1 : Int32), p) else if (f_X6_readCommand p sb).1 = 0 then ((-1 : Int32), (f_X6_readCommand p sb).2) else if (f_X6_readCommand p sb).2.1 = f_J4_length_8abf5 sb then (nI c, (f_X6_readCommand p sb).2) else if (f_X6_readSign (f_X6_readCommand p sb).2 sb 59).1 = 0 then ((-1 : Int32), (f_X6_readSign (f_X6_readCommand p sb).2 sb 59).2) else lp_X6_countCommands_6 q sb u n (nI c + 1) (f_X6_readSign (f_X6_readCommand p sb).2 sb 59).2 := rfl
    rw [e]
    split
    · exact Or.inl rfl
    · split
      · exact Or.inl rfl
      · split
        · exact Or.inr ⟨c, by omega, rfl⟩
        · split
          · exact Or.inl rfl
          · rw [nI_1]
            exact ih (c + 1) _ (by omega)
theorem cc_ok (pg : PrV) (tb : SbV) : (f_X6_countCommands pg tb).1 = -1 ∨ ∃ j : Nat, j < 2 ^ 30 ∧ (f_X6_countCommands pg tb).1 = nI j := cc_lp pg tb _ 61 1 _ (by decide)
theorem ex_form (q : McV) (v : StV) (hi : HiV) (hs : Nat → StV) (pg : PrV) (tb : SbV) : f_X9_execute q v hi hs pg tb = if (f_X6_countCommands pg tb).1 = -1 then ("java/lang/IllegalArgumentException", 0, (q.1, (f_X6_countCommands pg tb).2.1, q.2.2), v, hi, hs, (f_X6_countCommands pg tb).2, f_X6_clear (f_X6_countCommands pg tb).2 tb) else if (f_X9_runCommands q v (f_X6_countCommands pg tb).2 tb (f_X6_countCommands pg tb).1).1 = -1 then ("", (f_X6_countCommands pg tb).1, q, (f_X9_runCommands q v (f_X6_countCommands pg tb).2 tb (f_X6_countCommands pg tb).1).2.1, f_X4_keepDraft hi, f_X4_draft hi hs v, (f_X9_runCommands q v (f_X6_countCommands pg tb).2 tb (f_X6_countCommands pg tb).1).2.2, f_X6_clear (f_X9_runCommands q v (f_X6_countCommands pg tb).2 tb (f_X6_countCommands pg tb).1).2.2 tb) else ("java/lang/IllegalStateException", 0, (q.1, q.2.1, (f_X9_runCommands q v (f_X6_countCommands pg tb).2 tb (f_X6_countCommands pg tb).1).1), f_X4_dropDraft hi (f_X4_draft hi hs v) (f_X9_runCommands q v (f_X6_countCommands pg tb).2 tb (f_X6_countCommands pg tb).1).2.1, hi, f_X4_draft hi hs v, (f_X9_runCommands q v (f_X6_countCommands pg tb).2 tb (f_X6_countCommands pg tb).1).2.2, f_X6_clear (f_X9_runCommands q v (f_X6_countCommands pg tb).2 tb (f_X6_countCommands pg tb).1).2.2 tb) := rfl
theorem drop_v (hi : HiV) (hs : Nat → StV) (v w : StV) : f_X4_dropDraft hi (f_X4_draft hi hs v) w = v := by
  unfold f_X4_dropDraft f_X4_draft
  rw [va_up_self]
  rfl
/-- how a program's execution ends -/
def XE (dn : Nat) (v : StV) (hi : HiV) (hs : Nat → StV) (r : String × Int32 × McV × StV × HiV × (Nat → StV) × PrV × SbV) : Prop := ((¬ r.1 = "" ∧ r.2.2.2.1 = v) ∨ (r.1 = "" ∧ (∃ j : Nat, j < 2 ^ 30 ∧ r.2.1 = nI j) ∧ r.2.2.2.2.1 = f_X4_keepDraft hi ∧ r.2.2.2.2.2.1 = f_X4_draft hi hs v ∧ JS dn r.2.2.2.1)) ∧ r.2.2.2.2.2.2.2.2.2.2 = 0
theorem XE_ok {q : McV} {v : StV} {hi : HiV} {hs : Nat → StV} {pg : PrV} {tb : SbV} {l : List Nat} (hJ : JS dn v) (hT : TX tb l) : XE dn v hi hs (f_X9_execute q v hi hs pg tb) := by
  rw [ex_form]
  by_cases g : (f_X6_countCommands pg tb).1 = -1
  · rw [if_pos g]
    refine ⟨Or.inl ⟨show ¬ ("java/lang/IllegalArgumentException" : String) = "" by decide, rfl⟩, ?_⟩; dsimp only; exact clr_0 hT
  · rw [if_neg g]
    have hc := (cc_ok pg tb).resolve_left g
    have hr : ∀ (p : PrV) (x : Int32), JS dn (f_X9_runCommands q v p tb x).2.1 := fun p x => by
      unfold f_X9_runCommands
      exact JS_run hJ _ _ _ _ hJ
    have hr := hr (f_X6_countCommands pg tb).2 (f_X6_countCommands pg tb).1
    generalize f_X9_runCommands q v (f_X6_countCommands pg tb).2 tb (f_X6_countCommands pg tb).1 = R at hr ⊢
    by_cases g2 : R.1 = -1
    · rw [if_pos g2]
      refine ⟨Or.inr ⟨rfl, hc, rfl, rfl, hr⟩, ?_⟩; dsimp only; exact clr_0 hT
    · rw [if_neg g2]
      refine ⟨Or.inl ⟨show ¬ ("java/lang/IllegalStateException" : String) = "" by decide, ?_⟩, ?_⟩
      · dsimp only; exact drop_v hi hs v _
      · dsimp only; exact clr_0 hT
/-- how the law's helper ends -/
def XS (dn : Nat) (v : StV) (hi : HiV) (hs : Nat → StV) (r : Int32 × McV × StV × HiV × (Nat → StV) × PrV × SbV) : Prop := ((∃ i : Nat, 1 ≤ i ∧ i ≤ 4 ∧ r.1 = -nI (900000 + i) ∧ r.2.2.1 = v) ∨ ∃ j : Nat, j < 2 ^ 30 ∧ r.1 = nI j ∧ r.2.2.2.1 = f_X4_keepDraft hi ∧ r.2.2.2.2.1 = f_X4_draft hi hs v ∧ JS dn r.2.2.1) ∧ r.2.2.2.2.2.2.2.2.2 = 0
theorem XS_execute {B : Nat} {q : McV} {v sn : StV} {hi : HiV} {hs : Nat → StV} {tb nt : SbV} {d : MoV} (hW : RW B q v sn hi hs tb nt d) (hJ : JS dn v) (hB : B < 2 ^ 28) (pg : PrV) : ok_L_execute q v hi hs pg tb ∧ XS dn v hi hs (f_L_execute q v hi hs pg tb) ∧ ∃ d1, RW (B + 7200) (f_L_execute q v hi hs pg tb).2.1 (f_L_execute q v hi hs pg tb).2.2.1 sn (f_L_execute q v hi hs pg tb).2.2.2.1 (f_L_execute q v hi hs pg tb).2.2.2.2.1 (f_L_execute q v hi hs pg tb).2.2.2.2.2.2 nt d1 := by
  obtain ⟨⟨-, ok⟩, C, X⟩ := R_execute hW hB pg
  obtain ⟨l, hT, -⟩ := hW.2.2.2.2.2.1
  have M := XE_ok (q := q) (hi := hi) (hs := hs) (pg := pg) hJ hT
  have hnx := hW.nx
  unfold f_L_execute ok_L_execute
  generalize f_X9_execute q v hi hs pg tb = u at C X M ⊢
  obtain ⟨e, r, q1, v1, hi1, hs1, pg1, tb1⟩ := u
  unfold XE at M
  dsimp only at C X M ⊢
  obtain ⟨M, M0⟩ := M
  rcases RC_2 C with g | g | g
  · subst g
    rcases M with ⟨M1, -⟩ | ⟨-, ⟨j, hj, ej⟩, M2, M3, M4⟩
    · exact absurd rfl M1
    · rw [if_pos rfl]
      refine ⟨⟨ok, hnx, fun u hu => ?_⟩, ⟨Or.inr ⟨j, hj, ej, M2, M3, M4⟩, M0⟩, _, X⟩
      subst hu
      rw [if_pos rfl]; trivial
  · subst g
    rcases M with ⟨-, M1⟩ | ⟨M1, -⟩
    · rw [if_neg (show ¬ "java/lang/IllegalArgumentException" = "" by decide), if_pos rfl]
      refine ⟨⟨ok, hnx, fun u hu => ?_⟩, ⟨Or.inl ⟨1, by decide, by decide, rfl, M1⟩, M0⟩, _, X⟩
      subst hu
      rw [if_neg (show ¬ "java/lang/IllegalArgumentException" = "" by decide)]; trivial
    · exact absurd M1 (by decide)
  · subst g
    rcases M with ⟨-, M1⟩ | ⟨M1, -⟩
    · rw [if_neg (show ¬ "java/lang/IllegalStateException" = "" by decide), if_neg (show ¬ "java/lang/IllegalStateException" = "java/lang/IllegalArgumentException" by decide), if_pos rfl]
      refine ⟨⟨ok, hnx, fun u hu => ?_⟩, ⟨Or.inl ⟨2, by decide, by decide, rfl, M1⟩, M0⟩, _, X⟩
      subst hu
      rw [if_neg (show ¬ "java/lang/IllegalStateException" = "" by decide)]; trivial
    · exact absurd M1 (by decide)
theorem ty_step {B : Nat} {q : McV} {v sn : StV} {hi : HiV} {hs : Nat → StV} {tb nt : SbV} {d : MoV} (hW : RW B q v sn hi hs tb nt d) (pg : PrV) {c k : Nat} (hc : 32 ≤ c) (hc2 : c ≤ 126) (hk : k < 60) (ek : tb.2.2.2 = nI k) : ok_X9_type q pg tb (nI c) ∧ (f_X9_type q pg tb (nI c)).1 = "" ∧ (f_X9_type q pg tb (nI c)).2.1 = nI (k + 1) ∧ (f_X9_type q pg tb (nI c)).2.2.2.2.2 = nI (k + 1) ∧ ∃ d1, RW B q v sn hi hs (f_X9_type q pg tb (nI c)).2.2 nt d1 := by
  obtain ⟨⟨-, ok⟩, -, X⟩ := R_type hW pg (nI c)
  obtain ⟨l, hT, -, hl, -⟩ := hW.2.2.2.2.2.1
  have el : l.length = k := (nI_eq (by omega) (by omega)).mp (hT.2.2.1.symm.trans ek)
  have t := (tx_char hT (by omega) (c := c) (by omega)).2
  have e1 : f_X9_requireRange (nI c) 32 126 = "" := by
    unfold f_X9_requireRange
    rw [if_neg (show ¬ nI c < (32 : Int32) from nI_nlt (a := c) (b := 32) (by omega) (by omega)), if_pos (show nI c ≤ (126 : Int32) from nI_le (a := c) (b := 126) (by omega) (by decide))]
  have e2 : f_X6_length pg tb < 60 := by
    show tb.2.2.2 < 60
    rw [ek]; exact nI_lt (b := 60) (by omega) (by decide)
  have e3 : (f_J4_append_cf468 tb (nI c)).2.2.2 = nI (k + 1) := by
    rw [t.2.2.1, List.length_append, el]; rfl
  have e : f_X9_type q pg tb (nI c) = ("", (f_J4_append_cf468 tb (nI c)).2.2.2, f_J4_append_cf468 tb (nI c)) := by
    unfold f_X9_type
    rw [if_pos e1, if_pos e2]
    rfl
  refine ⟨ok, ?_, ?_, ?_, _, X⟩
  · rw [e]
  · rw [e]; exact e3
  · rw [e]; exact e3
theorem ch_T {tj : TxV} {n k : Nat} (h : TJ tj n) (hn : n ≤ 70) (hk : k < tj.1) : ok_J0_charAt_5068eT tj (nI k) ∧ ∃ c, 32 ≤ c ∧ c ≤ 126 ∧ f_J0_charAt_5068eT tj (nI k) = nI c := by
  obtain ⟨h1, h2⟩ := h
  obtain ⟨c, c1, c2, c3⟩ := h2 k hk
  unfold ok_J0_charAt_5068eT f_J0_charAt_5068eT ok_J1_charAt_3b067T f_J1_charAt_3b067T ok_J0_checkIndex_df160 ok_J3_checkIndex_8e157
  rw [nI_clamp (by omega), c3, if_neg (nI_pos (by omega)), if_pos (nI_lt hk (by omega))]
  exact ⟨⟨⟨⟨trivial, trivial⟩, vp_in_nI (by omega) (by omega), trivial⟩, by omega, trivial⟩, c, c1, c2, ch_and c (by omega)⟩
theorem do_lp {B : Nat} {q : McV} {v sn : StV} {hi : HiV} {hs : Nat → StV} {nt : SbV} {pg : PrV} {tb0 : SbV} {tj : TxV} {m : Nat} (ht : TJ tj m) (hm : m ≤ 34) : ∀ (n k : Nat) (x : Nat) (tb : SbV), n + k = 40 → k ≤ tj.1 → x ≤ 100 * k → tb.2.2.2 = nI k → (∃ d, RW B q v sn hi hs tb nt d) →
    okl_lp_L_does_4 q v hi hs pg tb0 tj n (nI k) (nI x) tb ∧ ∃ (y : Nat) (t1 : SbV), lp_L_does_4 q v hi hs pg tb0 tj n (nI k) (nI x) tb = (nI tj.1, nI y, t1) ∧ y ≤ 10000 ∧ ∃ d, RW B q v sn hi hs t1 nt d := by
  have hL : tj.1 ≤ 34 := Nat.le_trans ht.1 hm
  intro n
  induction n with
  | zero => intro k x tb h1 h2; omega
  | succ n ih =>
    intro k x tb h1 h2 h3 h4 h5
    obtain ⟨d, hW⟩ := h5
    unfold okl_lp_L_does_4 lp_L_does_4
    have el : f_J0_length_8abf5T tj = nI tj.1 := rfl
    rw [el]
    by_cases g : tj.1 ≤ k
    · have ek : k = tj.1 := by omega
      rw [if_pos (nI_le g (by omega)), if_pos (nI_le g (by omega))]
      exact ⟨trivial, x, tb, by rw [ek], by omega, d, hW⟩
    · rw [if_neg (nI_ge (by omega) (by omega)), if_neg (nI_ge (by omega) (by omega))]
      obtain ⟨o1, c, c1, c2, c3⟩ := ch_T ht (by omega) (show k < tj.1 by omega)
      rw [c3]
      obtain ⟨p1, p2, p3, p4, d1, p5⟩ := ty_step hW pg c1 c2 (show k < 60 by omega) h4
      obtain ⟨K1, K2⟩ := ih (k + 1) (x + (k + 1)) (f_X9_type q pg tb (nI c)).2.2 (by omega) (by omega) (by omega) p4 ⟨d1, p5⟩
      rw [← nI_1, ← nI_add, ← p3] at K1 K2
      exact ⟨⟨o1, p1, p2, fun u hu => by subst hu; exact K1⟩, K2⟩
theorem XS_does {B : Nat} {q : McV} {v sn : StV} {hi : HiV} {hs : Nat → StV} {tb nt : SbV} {d : MoV} (hW : RW B q v sn hi hs tb nt d) (hJ : JS dn v) (hB : B < 2 ^ 28) (pg : PrV) (h0 : tb.2.2.2 = 0) {tj : TxV} {m : Nat} (ht : TJ tj m) (hm : m ≤ 34) : ok_L_does q v hi hs pg tb tj ∧ XS dn v hi hs (f_L_does q v hi hs pg tb tj) ∧ ∃ d1, RW (B + 7200) (f_L_does q v hi hs pg tb tj).2.1 (f_L_does q v hi hs pg tb tj).2.2.1 sn (f_L_does q v hi hs pg tb tj).2.2.2.1 (f_L_does q v hi hs pg tb tj).2.2.2.2.1 (f_L_does q v hi hs pg tb tj).2.2.2.2.2.2 nt d1 := by
  obtain ⟨k1, y, t1, k2, k3, d2, hW2⟩ := do_lp (pg := pg) (tb0 := tb) ht hm 40 0 0 tb rfl (Nat.zero_le _) (Nat.zero_le _) h0 ⟨d, hW⟩
  have k1 : okl_lp_L_does_4 q v hi hs pg tb tj 40 0 0 tb := k1
  have k2 : lp_L_does_4 q v hi hs pg tb tj 40 0 0 tb = (nI tj.1, nI y, t1) := k2
  obtain ⟨x1, x2, d3, x3⟩ := XS_execute hW2 hJ hB pg
  have hy : (0 : Int32) ≤ nI y := nI_pos' (by omega)
  have e : f_L_does q v hi hs pg tb tj = f_L_execute q v hi hs pg t1 := by
    unfold f_L_does
    rw [k2]
    dsimp only
    rw [if_pos hy]
  rw [e]
  refine ⟨?_, x2, d3, x3⟩
  unfold ok_L_does
  refine ⟨k1, fun r hr => ?_⟩
  rw [hr, k2]
  dsimp only
  rw [if_pos hy]
  exact ⟨x1, trivial⟩
/-! the script's numbers -/
theorem in_ok {G : GG} (hL : scL G < 2 ^ 31) {x n : Nat} (hx : x < 2 ^ 31) (h0 : 0 < n) (hn : n < 2 ^ 31) : ok_L_in G (nI x) (nI n) ∧ ∃ j : Nat, j < n ∧ f_L_in G (nI x) (nI n) = nI j := by
  refine ⟨⟨?_, nI_ne0 h0 hn, trivial⟩, ?_⟩
  · unfold ok_L_cell
    by_cases g : nI (scL G) ≤ nI x
    · rw [if_pos g]; trivial
    · rw [if_neg g]
      have : x < scL G := by
        rw [nI_leI hL hx] at g
        omega
      exact ⟨vp_in_nI this hL, trivial⟩
  · unfold f_L_in
    obtain ⟨y, hy, e⟩ := pk_andE (f_L_cell G (nI x)) (m := 2147483647) 31 (by decide)
    rw [e, n_rem hy h0 hn]
    exact ⟨y % n, Nat.mod_lt _ h0, rfl⟩
