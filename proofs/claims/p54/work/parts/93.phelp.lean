/-! ===== the helpers of the law that modify ===== -/
variable {dn : Nat}
theorem RW.nx {B : Nat} {q : McV} {v sn : StV} {hi : HiV} {hs : Nat → StV} {tb nt : SbV} {d : MoV} (h : RW B q v sn hi hs tb nt d) : nx9 hi.2 := by
  obtain ⟨-, ⟨k, x, -, hx, -, e, -, -⟩, -⟩ := h
  unfold nx9
  rw [e]
  rcases (show x = 0 ∨ x = 1 ∨ x = 2 ∨ x = 3 ∨ x = 4 ∨ x = 5 ∨ x = 6 ∨ x = 7 ∨ x = 8 by omega) with rfl | rfl | rfl | rfl | rfl | rfl | rfl | rfl | rfl <;> decide
theorem RW.un {B : Nat} {q : McV} {v sn : StV} {hi : HiV} {hs : Nat → StV} {tb nt : SbV} {d : MoV} (h : RW B q v sn hi hs tb nt d) (w : StV) : UN (f_X4_keepDraft hi) (f_X4_draft hi hs w) w := by
  obtain ⟨-, ⟨k, x, hk, hx, e1, e2, -, -⟩, -⟩ := h
  exact un_note hk hx e1 e2
theorem RC_1 {E0 E : String} {a b th : Int32} (C : RC [E0] E a b th) : E = "" ∨ E = E0 := by
  rcases C with h | ⟨i, hi, hx, hne, ht⟩
  · exact Or.inl h.1
  · rcases (show i = 0 ∨ i = 1 ∨ i = 2 ∨ i = 3 ∨ i = 4 by omega) with e | e | e | e | e <;> subst e
    · exact Or.inr (Option.some.inj (show some E0 = some E from hx)).symm
    · exact absurd hx (by simp)
    · exact absurd hx (by simp)
    · exact absurd hx (by simp)
    · exact absurd hx (by simp)
theorem RC_2 {E0 E1 E : String} {a b th : Int32} (C : RC [E0, E1] E a b th) : E = "" ∨ E = E0 ∨ E = E1 := by
  rcases C with h | ⟨i, hi, hx, hne, ht⟩
  · exact Or.inl h.1
  · rcases (show i = 0 ∨ i = 1 ∨ i = 2 ∨ i = 3 ∨ i = 4 by omega) with e | e | e | e | e <;> subst e
    · exact Or.inr (Or.inl (Option.some.inj (show some E0 = some E from hx)).symm)
    · exact Or.inr (Or.inr (Option.some.inj (show some E1 = some E from hx)).symm)
    · exact absurd hx (by simp)
    · exact absurd hx (by simp)
    · exact absurd hx (by simp)
theorem RC_3 {E0 E1 E2 E : String} {a b th : Int32} (C : RC [E0, E1, E2] E a b th) : E = "" ∨ E = E0 ∨ E = E1 ∨ E = E2 := by
  rcases C with h | ⟨i, hi, hx, hne, ht⟩
  · exact Or.inl h.1
  · rcases (show i = 0 ∨ i = 1 ∨ i = 2 ∨ i = 3 ∨ i = 4 by omega) with e | e | e | e | e <;> subst e
    · exact Or.inr (Or.inl (Option.some.inj (show some E0 = some E from hx)).symm)
    · exact Or.inr (Or.inr (Or.inl (Option.some.inj (show some E1 = some E from hx)).symm))
    · exact Or.inr (Or.inr (Or.inr (Option.some.inj (show some E2 = some E from hx)).symm))
    · exact absurd hx (by simp)
    · exact absurd hx (by simp)
theorem RC_4 {E0 E1 E2 E3 E : String} {a b th : Int32} (C : RC [E0, E1, E2, E3] E a b th) : E = "" ∨ E = E0 ∨ E = E1 ∨ E = E2 ∨ E = E3 := by
  rcases C with h | ⟨i, hi, hx, hne, ht⟩
  · exact Or.inl h.1
  · rcases (show i = 0 ∨ i = 1 ∨ i = 2 ∨ i = 3 ∨ i = 4 by omega) with e | e | e | e | e <;> subst e
    · exact Or.inr (Or.inl (Option.some.inj (show some E0 = some E from hx)).symm)
    · exact Or.inr (Or.inr (Or.inl (Option.some.inj (show some E1 = some E from hx)).symm))
    · exact Or.inr (Or.inr (Or.inr (Or.inl (Option.some.inj (show some E2 = some E from hx)).symm)))
    · exact Or.inr (Or.inr (Or.inr (Or.inr (Option.some.inj (show some E3 = some E from hx)).symm)))
    · exact absurd hx (by simp)
/-- how such a helper ends -/
def WS (dn : Nat) (v : StV) (hi : HiV) (hs : Nat → StV) (r : Int32 × StV × HiV × (Nat → StV)) : Prop := (∃ i : Nat, 1 ≤ i ∧ i ≤ 4 ∧ r.1 = -nI (900000 + i) ∧ r.2 = (v, hi, hs)) ∨ ∃ j : Nat, j < 2 ^ 20 ∧ r.1 = nI j ∧ r.2.2 = (f_X4_keepDraft hi, f_X4_draft hi hs v) ∧ JS dn r.2.1
/-- the answer of a call that went through is no code -/
def NN (r : String × Int32 × StV × HiV × (Nat → StV)) : Prop := r.1 = "" → ∃ j : Nat, j < 2 ^ 20 ∧ r.2.1 = nI j
theorem NN_thr {E : String} {x : Int32 × StV × HiV × (Nat → StV)} (h : ¬ E = "") : NN (E, x) := fun g => absurd g h
section NN
variable {B : Nat} {q : McV} {v sn : StV} {hi : HiV} {hs : Nat → StV} {tb nt : SbV} {d : MoV}
theorem NN_addDoor (h : RW B q v sn hi hs tb nt d) (a b c e : Int32) : NN (f_X9_addDoor q v hi hs a b c e) := by
  obtain ⟨t, c', ht, hc, hc2, e1, e2, e3, e4, ⟨n, hn, hn1, -⟩, hE, hP, hA⟩ := h.1
  unfold f_X9_addDoor
  split
  · exact fun _ => ⟨n, by omega, hn1⟩
  · rename_i g; exact NN_thr g
theorem NN_setRule (h : RW B q v sn hi hs tb nt d) (x a b c e : Int32) : NN (f_X9_setRule q v hi hs x a b c e) := by
  obtain ⟨t, c', ht, hc, hc2, e1, e2, e3, e4, ⟨n, hn, hn1, hn2, hr⟩, hE, hP, hA⟩ := h.1
  unfold f_X9_setRule
  split
  · rename_i g
    split
    · intro _
      rcases h_do v.2.2.1 hn hn1 x with g2 | ⟨-, j, hj, rfl⟩
      · unfold f_X9_requireDoor at g
        rw [if_pos g2] at g
        exact absurd g (by decide)
      · obtain ⟨a', b', c2, k, -, -, -, hk, -, -, -, r4, -⟩ := hr j (by omega)
        refine ⟨k, by omega, ?_⟩
        show f_X2_keyFor v.2.2.1 (nI j) = nI k
        unfold f_X2_keyFor
        rw [n_at _ (by omega) (by decide), r4]
    · rename_i g2; exact NN_thr g2
  · rename_i g; exact NN_thr g
theorem ins_cnt (E : ExV) (dr dy op : Int32) : ∀ (m x : Nat) (dL : ExV), m = x + 1 → x < 2 ^ 30 → (lp_X1_insert_6 E dr dy op m (nI x) dL).1 = dL.1 + 1 := by
  intro m
  induction m with
  | zero => intro x dL h; omega
  | succ m ih =>
    intro x dL hm hx
    rw [ins_step]
    by_cases g : x = 0
    · subst g
      rw [if_pos (show nI 0 ≤ (0 : Int32) by decide)]
    · rw [if_neg (nI_nle (by omega) (by omega))]
      split
      · rfl
      · rw [sb_m1 (show 1 ≤ x by omega), ih (x - 1) _ (by omega) (by omega)]
        rfl
theorem NN_addException (h : RW B q v sn hi hs tb nt d) (a b op : Int32) : NN (f_X9_addException q v hi hs a b op) := by
  obtain ⟨t, c', ht, hc, hc2, e1, e2, e3, e4, hD, ⟨n, hn, hn1, -⟩, hP, hA⟩ := h.1
  unfold f_X9_addException
  split
  · refine fun _ => ⟨n + 1, by omega, ?_⟩
    show (f_X1_insert v.2.2.2.1 a b op).1 = nI (n + 1)
    unfold f_X1_insert
    rw [hn1, nI_toInt (by omega), show ((n : Int)).toNat + 1 = n + 1 by omega, ins_cnt _ _ _ _ (n + 1) n _ rfl (by omega), hn1, nI_1]
  · rename_i g; exact NN_thr g
theorem NN_addPerson (h : RW B q v sn hi hs tb nt d) : NN (f_X9_addPerson q v hi hs) := by
  obtain ⟨t, c', ht, hc, hc2, e1, e2, e3, e4, hD, hE, ⟨n, hn, hn1, -⟩, hA⟩ := h.1
  unfold f_X9_addPerson
  split
  · exact fun _ => ⟨n, by omega, hn1⟩
  · exact NN_thr (by decide)
theorem bits_ok : ∀ a, a < 256 → ∃ j, j < 9 ∧ f_J6_bitCount_0f7a4 (nI a) = nI j := by decide +kernel
theorem ring_ok {p : PeV} {s : Nat → Int32} (h : RP B p s) (x : Int32) (hx : ¬ f_X5_holds p x = 0) : ∃ j : Nat, j < 2 ^ 20 ∧ f_J6_bitCount_0f7a4 (f_X7_at 6 p.2.1 x) = nI j := by
  obtain ⟨n, hn, h1, h2, hr⟩ := h
  rcases h_pe p hn h1 x with g | ⟨-, j, hj, rfl⟩
  · exact absurd g hx
  · obtain ⟨a, e, ha, -, r1, -⟩ := hr j (by omega)
    rw [n_at _ (by omega) (by decide), r1]
    obtain ⟨k, hk, e2⟩ := bits_ok a ha
    exact ⟨k, by omega, e2⟩
theorem NN_giveKey (h : RW B q v sn hi hs tb nt d) (hB : B < 2 ^ 19) (a b : Int32) : NN (f_X9_giveKey q v hi hs a b) := by
  obtain ⟨-, -, W⟩ := R_giveKey h (by omega) a b
  intro g
  have gf : f_X9_throwFor (f_X5_faultOfGiving v.2.2.2.2.1 a b) = "" := by
    by_cases g2 : f_X9_throwFor (f_X5_faultOfGiving v.2.2.2.2.1 a b) = ""
    · exact g2
    · unfold f_X9_giveKey at g
      rw [if_neg g2] at g
      exact g
  have e : f_X9_giveKey q v hi hs a b = ("", (f_X5_give v.2.2.2.2.1 a b).1, (v.1, v.2.1, v.2.2.1, v.2.2.2.1, (f_X5_give v.2.2.2.2.1 a b).2, v.2.2.2.2.2), (f_X4_note hi hs v).1, (f_X4_note hi hs v).2) := by
    unfold f_X9_giveKey
    rw [if_pos gf]
  rw [e] at W ⊢
  obtain ⟨t, c', ht, hc, hc2, e1, e2, e3, e4, hD, hE, hP, hA⟩ := W.1
  have hne : ¬ f_X5_holds v.2.2.2.2.1 a = 0 := fun g2 => by
    have := thr0 gf (f6_give _ _ _)
    unfold f_X5_faultOfGiving at this
    rw [if_pos g2] at this
    exact absurd this (by decide)
  exact ring_ok (p := (f_X5_give v.2.2.2.2.1 a b).2) hP a hne
theorem NN_takeKey (h : RW B q v sn hi hs tb nt d) (hB : B < 2 ^ 19) (a b : Int32) : NN (f_X9_takeKey q v hi hs a b) := by
  obtain ⟨-, -, W⟩ := R_takeKey h (by omega) a b
  intro g
  have gf : f_X9_throwFor (f_X5_faultOfTaking v.2.2.2.2.1 a b) = "" := by
    by_cases g2 : f_X9_throwFor (f_X5_faultOfTaking v.2.2.2.2.1 a b) = ""
    · exact g2
    · unfold f_X9_takeKey at g
      rw [if_neg g2] at g
      exact g
  have e : f_X9_takeKey q v hi hs a b = ("", (f_X5_take v.2.2.2.2.1 a b).1, (v.1, v.2.1, v.2.2.1, v.2.2.2.1, (f_X5_take v.2.2.2.2.1 a b).2, v.2.2.2.2.2), (f_X4_note hi hs v).1, (f_X4_note hi hs v).2) := by
    unfold f_X9_takeKey
    rw [if_pos gf]
  rw [e] at W ⊢
  obtain ⟨t, c', ht, hc, hc2, e1, e2, e3, e4, hD, hE, hP, hA⟩ := W.1
  have hne : ¬ f_X5_holds v.2.2.2.2.1 a = 0 := fun g2 => by
    have := thr0 gf (f6_take _ _ _)
    unfold f_X5_faultOfTaking at this
    rw [if_pos g2] at this
    exact absurd this (by decide)
  exact ring_ok (p := (f_X5_take v.2.2.2.2.1 a b).2) hP a hne
theorem NN_tryDoor (h : RW B q v sn hi hs tb nt d) (hB : B < 2 ^ 19) (a b : Int32) : NN (f_X9_tryDoor q v hi hs a b) := by
  unfold f_X9_tryDoor
  split
  · obtain ⟨r, hr, er⟩ := rs_5 v a b
    refine fun _ => ⟨r, by omega, ?_⟩
    show (f_X8_attempt v a b).1 = nI r
    have ea : (f_X8_attempt v a b).1 = f_X8_resultFor v a b := by
      unfold f_X8_attempt
      dsimp only
      split <;> rfl
    rw [ea, er]
  · rename_i g; exact NN_thr g
theorem NN_setCycle (h : RW B q v sn hi hs tb nt d) (hB : B < 2 ^ 19) (a : Int32) : NN (f_X9_setCycle q v hi hs a) := by
  obtain ⟨t, c', ht, hc, hc2, e1, e2, e3, e4, hD, hE, hP, hA⟩ := h.1
  unfold f_X9_setCycle
  split
  · exact fun _ => ⟨c', by omega, e3⟩
  · rename_i g; exact NN_thr g
theorem NN_advance (h : RW B q v sn hi hs tb nt d) (hB : B < 2 ^ 19) (a : Int32) : NN (f_X9_advance q v hi hs a) := by
  obtain ⟨-, -, W⟩ := R_advance h (by omega) a
  unfold f_X9_advance at W ⊢
  split
  · rename_i g
    rw [if_pos g] at W
    obtain ⟨t, c', ht, hc, hc2, e1, e2, e3, e4, hD, hE, hP, hA⟩ := W.1
    exact fun _ => ⟨t / 24, by omega, c_today (v := (f_X8_passHours v a).2) e1 (by omega)⟩
  · rename_i g; exact NN_thr g
end NN
theorem WS_addDoor {B : Nat} {q : McV} {v sn : StV} {hi : HiV} {hs : Nat → StV} {tb nt : SbV} {d : MoV} (hW : RW B q v sn hi hs tb nt d) (hJ : JS dn v) (hB : B < 2 ^ 18) (ph fh lh ke : Int32) : ok_L_addDoor q v hi hs ph fh lh ke ∧ WS (dn + 1) v hi hs (f_L_addDoor q v hi hs ph fh lh ke) ∧ ∃ d1, RW (B + 240) q (f_L_addDoor q v hi hs ph fh lh ke).2.1 sn (f_L_addDoor q v hi hs ph fh lh ke).2.2.1 (f_L_addDoor q v hi hs ph fh lh ke).2.2.2 tb nt d1 := by
  obtain ⟨-, C, X⟩ := R_addDoor hW ph fh lh ke
  have M := MS_addDoor (q := q) (hi := hi) (hs := hs) hJ ph fh lh ke
  have N := NN_addDoor hW ph fh lh ke
  have hnx := hW.nx
  unfold f_L_addDoor ok_L_addDoor
  generalize f_X9_addDoor q v hi hs ph fh lh ke = u at C X M N ⊢
  obtain ⟨e, r, v1, hi1, hs1⟩ := u
  dsimp only at C X M ⊢
  rcases RC_2 C with g | g | g
  · subst g
    rcases M with ⟨M1, -⟩ | ⟨-, M2, M3⟩
    · exact absurd rfl M1
    · obtain ⟨j, hj, ej⟩ := N rfl
      rw [if_pos rfl, if_pos rfl]
      exact ⟨⟨hnx, trivial⟩, Or.inr ⟨j, hj, ej, M2, M3⟩, _, X.mono (by omega)⟩
  · subst g
    rw [if_neg (show ¬ "java/lang/IllegalArgumentException" = "" by decide), if_pos rfl]
    rw [if_neg (show ¬ "java/lang/IllegalArgumentException" = "" by decide), if_pos rfl]
    exact ⟨⟨hnx, trivial⟩, Or.inl ⟨1, by decide, by decide, rfl, rfl⟩, _, hW.mono (by omega)⟩
  · subst g
    rw [if_neg (show ¬ "java/lang/IllegalStateException" = "" by decide), if_neg (show ¬ "java/lang/IllegalStateException" = "java/lang/IllegalArgumentException" by decide), if_pos rfl]
    rw [if_neg (show ¬ "java/lang/IllegalStateException" = "" by decide), if_neg (show ¬ "java/lang/IllegalStateException" = "java/lang/IllegalArgumentException" by decide), if_pos rfl]
    exact ⟨⟨hnx, trivial⟩, Or.inl ⟨2, by decide, by decide, rfl, rfl⟩, _, hW.mono (by omega)⟩
theorem WS_setRule {B : Nat} {q : McV} {v sn : StV} {hi : HiV} {hs : Nat → StV} {tb nt : SbV} {d : MoV} (hW : RW B q v sn hi hs tb nt d) (hJ : JS dn v) (hB : B < 2 ^ 18) (dr ph fh lh ke : Int32) : ok_L_setRule q v hi hs dr ph fh lh ke ∧ WS dn v hi hs (f_L_setRule q v hi hs dr ph fh lh ke) ∧ ∃ d1, RW (B + 240) q (f_L_setRule q v hi hs dr ph fh lh ke).2.1 sn (f_L_setRule q v hi hs dr ph fh lh ke).2.2.1 (f_L_setRule q v hi hs dr ph fh lh ke).2.2.2 tb nt d1 := by
  obtain ⟨-, C, X⟩ := R_setRule hW dr ph fh lh ke
  have M := MS_setRule (q := q) (hi := hi) (hs := hs) hJ dr ph fh lh ke
  have N := NN_setRule hW dr ph fh lh ke
  have hnx := hW.nx
  unfold f_L_setRule ok_L_setRule
  generalize f_X9_setRule q v hi hs dr ph fh lh ke = u at C X M N ⊢
  obtain ⟨e, r, v1, hi1, hs1⟩ := u
  dsimp only at C X M ⊢
  rcases RC_2 C with g | g | g
  · subst g
    rcases M with ⟨M1, -⟩ | ⟨-, M2, M3⟩
    · exact absurd rfl M1
    · obtain ⟨j, hj, ej⟩ := N rfl
      rw [if_pos rfl, if_pos rfl]
      exact ⟨⟨hnx, trivial⟩, Or.inr ⟨j, hj, ej, M2, M3⟩, _, X.mono (by omega)⟩
  · subst g
    rw [if_neg (show ¬ "java/lang/IndexOutOfBoundsException" = "" by decide), if_pos rfl]
    rw [if_neg (show ¬ "java/lang/IndexOutOfBoundsException" = "" by decide), if_pos rfl]
    exact ⟨⟨hnx, trivial⟩, Or.inl ⟨1, by decide, by decide, rfl, rfl⟩, _, hW.mono (by omega)⟩
  · subst g
    rw [if_neg (show ¬ "java/lang/IllegalArgumentException" = "" by decide), if_neg (show ¬ "java/lang/IllegalArgumentException" = "java/lang/IndexOutOfBoundsException" by decide), if_pos rfl]
    rw [if_neg (show ¬ "java/lang/IllegalArgumentException" = "" by decide), if_neg (show ¬ "java/lang/IllegalArgumentException" = "java/lang/IndexOutOfBoundsException" by decide), if_pos rfl]
    exact ⟨⟨hnx, trivial⟩, Or.inl ⟨2, by decide, by decide, rfl, rfl⟩, _, hW.mono (by omega)⟩
theorem WS_addException {B : Nat} {q : McV} {v sn : StV} {hi : HiV} {hs : Nat → StV} {tb nt : SbV} {d : MoV} (hW : RW B q v sn hi hs tb nt d) (hJ : JS dn v) (hB : B < 2 ^ 18) (dr dy op : Int32) (hop : op = 0 ∨ op = 1) : ok_L_addException q v hi hs dr dy op ∧ WS dn v hi hs (f_L_addException q v hi hs dr dy op) ∧ ∃ d1, RW (B + 240) q (f_L_addException q v hi hs dr dy op).2.1 sn (f_L_addException q v hi hs dr dy op).2.2.1 (f_L_addException q v hi hs dr dy op).2.2.2 tb nt d1 := by
  obtain ⟨-, C, X⟩ := R_addException hW (by omega) dr dy op hop
  have M := MS_addException (q := q) (hi := hi) (hs := hs) hJ dr dy op
  have N := NN_addException hW dr dy op
  have hnx := hW.nx
  unfold f_L_addException ok_L_addException
  generalize f_X9_addException q v hi hs dr dy op = u at C X M N ⊢
  obtain ⟨e, r, v1, hi1, hs1⟩ := u
  dsimp only at C X M ⊢
  rcases RC_4 C with g | g | g | g | g
  · subst g
    rcases M with ⟨M1, -⟩ | ⟨-, M2, M3⟩
    · exact absurd rfl M1
    · obtain ⟨j, hj, ej⟩ := N rfl
      rw [if_pos rfl, if_pos rfl]
      exact ⟨⟨hnx, trivial⟩, Or.inr ⟨j, hj, ej, M2, M3⟩, _, X.mono (by omega)⟩
  · subst g
    rw [if_neg (show ¬ "java/lang/IndexOutOfBoundsException" = "" by decide), if_pos rfl]
    rw [if_neg (show ¬ "java/lang/IndexOutOfBoundsException" = "" by decide), if_pos rfl]
    exact ⟨⟨hnx, trivial⟩, Or.inl ⟨1, by decide, by decide, rfl, rfl⟩, _, hW.mono (by omega)⟩
  · subst g
    rw [if_neg (show ¬ "java/lang/IllegalArgumentException" = "" by decide), if_neg (show ¬ "java/lang/IllegalArgumentException" = "java/lang/IndexOutOfBoundsException" by decide), if_pos rfl]
    rw [if_neg (show ¬ "java/lang/IllegalArgumentException" = "" by decide), if_neg (show ¬ "java/lang/IllegalArgumentException" = "java/lang/IndexOutOfBoundsException" by decide), if_pos rfl]
    exact ⟨⟨hnx, trivial⟩, Or.inl ⟨2, by decide, by decide, rfl, rfl⟩, _, hW.mono (by omega)⟩
  · subst g
    rw [if_neg (show ¬ "java/lang/UnsupportedOperationException" = "" by decide), if_neg (show ¬ "java/lang/UnsupportedOperationException" = "java/lang/IndexOutOfBoundsException" by decide), if_neg (show ¬ "java/lang/UnsupportedOperationException" = "java/lang/IllegalArgumentException" by decide), if_pos rfl]
    rw [if_neg (show ¬ "java/lang/UnsupportedOperationException" = "" by decide), if_neg (show ¬ "java/lang/UnsupportedOperationException" = "java/lang/IndexOutOfBoundsException" by decide), if_neg (show ¬ "java/lang/UnsupportedOperationException" = "java/lang/IllegalArgumentException" by decide), if_pos rfl]
    exact ⟨⟨hnx, trivial⟩, Or.inl ⟨3, by decide, by decide, rfl, rfl⟩, _, hW.mono (by omega)⟩
  · subst g
    rw [if_neg (show ¬ "java/lang/IllegalStateException" = "" by decide), if_neg (show ¬ "java/lang/IllegalStateException" = "java/lang/IndexOutOfBoundsException" by decide), if_neg (show ¬ "java/lang/IllegalStateException" = "java/lang/IllegalArgumentException" by decide), if_neg (show ¬ "java/lang/IllegalStateException" = "java/lang/UnsupportedOperationException" by decide), if_pos rfl]
    rw [if_neg (show ¬ "java/lang/IllegalStateException" = "" by decide), if_neg (show ¬ "java/lang/IllegalStateException" = "java/lang/IndexOutOfBoundsException" by decide), if_neg (show ¬ "java/lang/IllegalStateException" = "java/lang/IllegalArgumentException" by decide), if_neg (show ¬ "java/lang/IllegalStateException" = "java/lang/UnsupportedOperationException" by decide), if_pos rfl]
    exact ⟨⟨hnx, trivial⟩, Or.inl ⟨4, by decide, by decide, rfl, rfl⟩, _, hW.mono (by omega)⟩
theorem WS_addPerson {B : Nat} {q : McV} {v sn : StV} {hi : HiV} {hs : Nat → StV} {tb nt : SbV} {d : MoV} (hW : RW B q v sn hi hs tb nt d) (hJ : JS dn v) (hB : B < 2 ^ 18) : ok_L_addPerson q v hi hs ∧ WS dn v hi hs (f_L_addPerson q v hi hs) ∧ ∃ d1, RW (B + 240) q (f_L_addPerson q v hi hs).2.1 sn (f_L_addPerson q v hi hs).2.2.1 (f_L_addPerson q v hi hs).2.2.2 tb nt d1 := by
  obtain ⟨-, C, X⟩ := R_addPerson hW 
  have M := MS_addPerson (q := q) (hi := hi) (hs := hs) hJ 
  have N := NN_addPerson hW 
  have hnx := hW.nx
  unfold f_L_addPerson ok_L_addPerson
  generalize f_X9_addPerson q v hi hs = u at C X M N ⊢
  obtain ⟨e, r, v1, hi1, hs1⟩ := u
  dsimp only at C X M ⊢
  rcases RC_1 C with g | g
  · subst g
    rcases M with ⟨M1, -⟩ | ⟨-, M2, M3⟩
    · exact absurd rfl M1
    · obtain ⟨j, hj, ej⟩ := N rfl
      rw [if_pos rfl, if_pos rfl]
      exact ⟨⟨hnx, trivial⟩, Or.inr ⟨j, hj, ej, M2, M3⟩, _, X.mono (by omega)⟩
  · subst g
    rw [if_neg (show ¬ "java/lang/IllegalStateException" = "" by decide), if_pos rfl]
    rw [if_neg (show ¬ "java/lang/IllegalStateException" = "" by decide), if_pos rfl]
    exact ⟨⟨hnx, trivial⟩, Or.inl ⟨1, by decide, by decide, rfl, rfl⟩, _, hW.mono (by omega)⟩
theorem WS_giveKey {B : Nat} {q : McV} {v sn : StV} {hi : HiV} {hs : Nat → StV} {tb nt : SbV} {d : MoV} (hW : RW B q v sn hi hs tb nt d) (hJ : JS dn v) (hB : B < 2 ^ 18) (ps ke : Int32) : ok_L_giveKey q v hi hs ps ke ∧ WS dn v hi hs (f_L_giveKey q v hi hs ps ke) ∧ ∃ d1, RW (B + 240) q (f_L_giveKey q v hi hs ps ke).2.1 sn (f_L_giveKey q v hi hs ps ke).2.2.1 (f_L_giveKey q v hi hs ps ke).2.2.2 tb nt d1 := by
  obtain ⟨-, C, X⟩ := R_giveKey hW (by omega) ps ke
  have M := MS_giveKey (q := q) (hi := hi) (hs := hs) hJ ps ke
  have N := NN_giveKey hW (by omega) ps ke
  have hnx := hW.nx
  unfold f_L_giveKey ok_L_giveKey
  generalize f_X9_giveKey q v hi hs ps ke = u at C X M N ⊢
  obtain ⟨e, r, v1, hi1, hs1⟩ := u
  dsimp only at C X M ⊢
  rcases RC_3 C with g | g | g | g
  · subst g
    rcases M with ⟨M1, -⟩ | ⟨-, M2, M3⟩
    · exact absurd rfl M1
    · obtain ⟨j, hj, ej⟩ := N rfl
      rw [if_pos rfl, if_pos rfl]
      exact ⟨⟨hnx, trivial⟩, Or.inr ⟨j, hj, ej, M2, M3⟩, _, X.mono (by omega)⟩
  · subst g
    rw [if_neg (show ¬ "java/lang/IndexOutOfBoundsException" = "" by decide), if_pos rfl]
    rw [if_neg (show ¬ "java/lang/IndexOutOfBoundsException" = "" by decide), if_pos rfl]
    exact ⟨⟨hnx, trivial⟩, Or.inl ⟨1, by decide, by decide, rfl, rfl⟩, _, hW.mono (by omega)⟩
  · subst g
    rw [if_neg (show ¬ "java/lang/IllegalArgumentException" = "" by decide), if_neg (show ¬ "java/lang/IllegalArgumentException" = "java/lang/IndexOutOfBoundsException" by decide), if_pos rfl]
    rw [if_neg (show ¬ "java/lang/IllegalArgumentException" = "" by decide), if_neg (show ¬ "java/lang/IllegalArgumentException" = "java/lang/IndexOutOfBoundsException" by decide), if_pos rfl]
    exact ⟨⟨hnx, trivial⟩, Or.inl ⟨2, by decide, by decide, rfl, rfl⟩, _, hW.mono (by omega)⟩
  · subst g
    rw [if_neg (show ¬ "java/lang/IllegalStateException" = "" by decide), if_neg (show ¬ "java/lang/IllegalStateException" = "java/lang/IndexOutOfBoundsException" by decide), if_neg (show ¬ "java/lang/IllegalStateException" = "java/lang/IllegalArgumentException" by decide), if_pos rfl]
    rw [if_neg (show ¬ "java/lang/IllegalStateException" = "" by decide), if_neg (show ¬ "java/lang/IllegalStateException" = "java/lang/IndexOutOfBoundsException" by decide), if_neg (show ¬ "java/lang/IllegalStateException" = "java/lang/IllegalArgumentException" by decide), if_pos rfl]
    exact ⟨⟨hnx, trivial⟩, Or.inl ⟨3, by decide, by decide, rfl, rfl⟩, _, hW.mono (by omega)⟩
theorem WS_takeKey {B : Nat} {q : McV} {v sn : StV} {hi : HiV} {hs : Nat → StV} {tb nt : SbV} {d : MoV} (hW : RW B q v sn hi hs tb nt d) (hJ : JS dn v) (hB : B < 2 ^ 18) (ps ke : Int32) : ok_L_takeKey q v hi hs ps ke ∧ WS dn v hi hs (f_L_takeKey q v hi hs ps ke) ∧ ∃ d1, RW (B + 240) q (f_L_takeKey q v hi hs ps ke).2.1 sn (f_L_takeKey q v hi hs ps ke).2.2.1 (f_L_takeKey q v hi hs ps ke).2.2.2 tb nt d1 := by
  obtain ⟨-, C, X⟩ := R_takeKey hW (by omega) ps ke
  have M := MS_takeKey (q := q) (hi := hi) (hs := hs) hJ ps ke
  have N := NN_takeKey hW (by omega) ps ke
  have hnx := hW.nx
  unfold f_L_takeKey ok_L_takeKey
  generalize f_X9_takeKey q v hi hs ps ke = u at C X M N ⊢
  obtain ⟨e, r, v1, hi1, hs1⟩ := u
  dsimp only at C X M ⊢
  rcases RC_2 C with g | g | g
  · subst g
    rcases M with ⟨M1, -⟩ | ⟨-, M2, M3⟩
    · exact absurd rfl M1
    · obtain ⟨j, hj, ej⟩ := N rfl
      rw [if_pos rfl, if_pos rfl]
      exact ⟨⟨hnx, trivial⟩, Or.inr ⟨j, hj, ej, M2, M3⟩, _, X.mono (by omega)⟩
  · subst g
    rw [if_neg (show ¬ "java/lang/IndexOutOfBoundsException" = "" by decide), if_pos rfl]
    rw [if_neg (show ¬ "java/lang/IndexOutOfBoundsException" = "" by decide), if_pos rfl]
    exact ⟨⟨hnx, trivial⟩, Or.inl ⟨1, by decide, by decide, rfl, rfl⟩, _, hW.mono (by omega)⟩
  · subst g
    rw [if_neg (show ¬ "java/util/NoSuchElementException" = "" by decide), if_neg (show ¬ "java/util/NoSuchElementException" = "java/lang/IndexOutOfBoundsException" by decide), if_pos rfl]
    rw [if_neg (show ¬ "java/util/NoSuchElementException" = "" by decide), if_neg (show ¬ "java/util/NoSuchElementException" = "java/lang/IndexOutOfBoundsException" by decide), if_pos rfl]
    exact ⟨⟨hnx, trivial⟩, Or.inl ⟨2, by decide, by decide, rfl, rfl⟩, _, hW.mono (by omega)⟩
theorem WS_tryDoor {B : Nat} {q : McV} {v sn : StV} {hi : HiV} {hs : Nat → StV} {tb nt : SbV} {d : MoV} (hW : RW B q v sn hi hs tb nt d) (hJ : JS dn v) (hB : B < 2 ^ 18) (ps dr : Int32) : ok_L_tryDoor q v hi hs ps dr ∧ WS dn v hi hs (f_L_tryDoor q v hi hs ps dr) ∧ ∃ d1, RW (B + 240) q (f_L_tryDoor q v hi hs ps dr).2.1 sn (f_L_tryDoor q v hi hs ps dr).2.2.1 (f_L_tryDoor q v hi hs ps dr).2.2.2 tb nt d1 := by
  obtain ⟨-, C, X⟩ := R_tryDoor hW (by omega) ps dr
  have M := MS_tryDoor (q := q) (hi := hi) (hs := hs) hJ ps dr
  have N := NN_tryDoor hW (by omega) ps dr
  have hnx := hW.nx
  unfold f_L_tryDoor ok_L_tryDoor
  generalize f_X9_tryDoor q v hi hs ps dr = u at C X M N ⊢
  obtain ⟨e, r, v1, hi1, hs1⟩ := u
  dsimp only at C X M ⊢
  rcases RC_1 C with g | g
  · subst g
    rcases M with ⟨M1, -⟩ | ⟨-, M2, M3⟩
    · exact absurd rfl M1
    · obtain ⟨j, hj, ej⟩ := N rfl
      rw [if_pos rfl, if_pos rfl]
      exact ⟨⟨hnx, trivial⟩, Or.inr ⟨j, hj, ej, M2, M3⟩, _, X.mono (by omega)⟩
  · subst g
    rw [if_neg (show ¬ "java/lang/IndexOutOfBoundsException" = "" by decide), if_pos rfl]
    rw [if_neg (show ¬ "java/lang/IndexOutOfBoundsException" = "" by decide), if_pos rfl]
    exact ⟨⟨hnx, trivial⟩, Or.inl ⟨1, by decide, by decide, rfl, rfl⟩, _, hW.mono (by omega)⟩
theorem WS_setCycle {B : Nat} {q : McV} {v sn : StV} {hi : HiV} {hs : Nat → StV} {tb nt : SbV} {d : MoV} (hW : RW B q v sn hi hs tb nt d) (hJ : JS dn v) (hB : B < 2 ^ 18) (dy : Int32) : ok_L_setCycle q v hi hs dy ∧ WS dn v hi hs (f_L_setCycle q v hi hs dy) ∧ ∃ d1, RW (B + 240) q (f_L_setCycle q v hi hs dy).2.1 sn (f_L_setCycle q v hi hs dy).2.2.1 (f_L_setCycle q v hi hs dy).2.2.2 tb nt d1 := by
  obtain ⟨-, C, X⟩ := R_setCycle hW (by omega) dy
  have M := MS_setCycle (q := q) (hi := hi) (hs := hs) hJ dy
  have N := NN_setCycle hW (by omega) dy
  have hnx := hW.nx
  unfold f_L_setCycle ok_L_setCycle
  generalize f_X9_setCycle q v hi hs dy = u at C X M N ⊢
  obtain ⟨e, r, v1, hi1, hs1⟩ := u
  dsimp only at C X M ⊢
  rcases RC_1 C with g | g
  · subst g
    rcases M with ⟨M1, -⟩ | ⟨-, M2, M3⟩
    · exact absurd rfl M1
    · obtain ⟨j, hj, ej⟩ := N rfl
      rw [if_pos rfl, if_pos rfl]
      exact ⟨⟨hnx, trivial⟩, Or.inr ⟨j, hj, ej, M2, M3⟩, _, X.mono (by omega)⟩
  · subst g
    rw [if_neg (show ¬ "java/lang/IllegalArgumentException" = "" by decide), if_pos rfl]
    rw [if_neg (show ¬ "java/lang/IllegalArgumentException" = "" by decide), if_pos rfl]
    exact ⟨⟨hnx, trivial⟩, Or.inl ⟨1, by decide, by decide, rfl, rfl⟩, _, hW.mono (by omega)⟩
theorem WS_advance {B : Nat} {q : McV} {v sn : StV} {hi : HiV} {hs : Nat → StV} {tb nt : SbV} {d : MoV} (hW : RW B q v sn hi hs tb nt d) (hJ : JS dn v) (hB : B < 2 ^ 18) (ho : Int32) : ok_L_advance q v hi hs ho ∧ WS dn v hi hs (f_L_advance q v hi hs ho) ∧ ∃ d1, RW (B + 240) q (f_L_advance q v hi hs ho).2.1 sn (f_L_advance q v hi hs ho).2.2.1 (f_L_advance q v hi hs ho).2.2.2 tb nt d1 := by
  obtain ⟨-, C, X⟩ := R_advance hW (by omega) ho
  have M := MS_advance (q := q) (hi := hi) (hs := hs) hJ ho
  have N := NN_advance hW (by omega) ho
  have hnx := hW.nx
  unfold f_L_advance ok_L_advance
  generalize f_X9_advance q v hi hs ho = u at C X M N ⊢
  obtain ⟨e, r, v1, hi1, hs1⟩ := u
  dsimp only at C X M ⊢
  rcases RC_1 C with g | g
  · subst g
    rcases M with ⟨M1, -⟩ | ⟨-, M2, M3⟩
    · exact absurd rfl M1
    · obtain ⟨j, hj, ej⟩ := N rfl
      rw [if_pos rfl, if_pos rfl]
      exact ⟨⟨hnx, trivial⟩, Or.inr ⟨j, hj, ej, M2, M3⟩, _, X.mono (by omega)⟩
  · subst g
    rw [if_neg (show ¬ "java/lang/IllegalArgumentException" = "" by decide), if_pos rfl]
    rw [if_neg (show ¬ "java/lang/IllegalArgumentException" = "" by decide), if_pos rfl]
    exact ⟨⟨hnx, trivial⟩, Or.inl ⟨1, by decide, by decide, rfl, rfl⟩, _, hW.mono (by omega)⟩
theorem WS_liftException {B : Nat} {q : McV} {v sn : StV} {hi : HiV} {hs : Nat → StV} {tb nt : SbV} {d : MoV} (hW : RW B q v sn hi hs tb nt d) (hJ : JS dn v) (hB : B < 2 ^ 18) (dr dy : Int32) : ok_L_liftException q v hi hs dr dy ∧ WS dn v hi hs (f_L_liftException q v hi hs dr dy) ∧ ∃ d1, RW (B + 240) q (f_L_liftException q v hi hs dr dy).2.1 sn (f_L_liftException q v hi hs dr dy).2.2.1 (f_L_liftException q v hi hs dr dy).2.2.2 tb nt d1 := by
  obtain ⟨-, C, X⟩ := R_liftException hW (by omega) dr dy
  have M := MS_liftException (q := q) (hi := hi) (hs := hs) hJ dr dy
  have hnx := hW.nx
  unfold f_L_liftException ok_L_liftException
  generalize f_X9_liftException q v hi hs dr dy = u at C X M ⊢
  obtain ⟨e, r, v1, hi1, hs1⟩ := u
  dsimp only at C X M ⊢
  rcases RC_2 C with g | g | g
  · subst g
    rcases M with ⟨M1, -⟩ | ⟨-, M2, M3⟩
    · exact absurd rfl M1
    · rw [if_pos rfl, if_pos rfl]
      by_cases g0 : r = 0
      · rw [if_pos g0]
        exact ⟨⟨hnx, trivial⟩, Or.inr ⟨0, by decide, rfl, M2, M3⟩, _, X.mono (by omega)⟩
      · rw [if_neg g0]
        exact ⟨⟨hnx, trivial⟩, Or.inr ⟨1, by decide, rfl, M2, M3⟩, _, X.mono (by omega)⟩
  · subst g
    rw [if_neg (show ¬ "java/lang/IndexOutOfBoundsException" = "" by decide), if_pos rfl]
    rw [if_neg (show ¬ "java/lang/IndexOutOfBoundsException" = "" by decide), if_pos rfl]
    exact ⟨⟨hnx, trivial⟩, Or.inl ⟨1, by decide, by decide, rfl, rfl⟩, _, hW.mono (by omega)⟩
  · subst g
    rw [if_neg (show ¬ "java/util/NoSuchElementException" = "" by decide), if_neg (show ¬ "java/util/NoSuchElementException" = "java/lang/IndexOutOfBoundsException" by decide), if_pos rfl]
    rw [if_neg (show ¬ "java/util/NoSuchElementException" = "" by decide), if_neg (show ¬ "java/util/NoSuchElementException" = "java/lang/IndexOutOfBoundsException" by decide), if_pos rfl]
    exact ⟨⟨hnx, trivial⟩, Or.inl ⟨2, by decide, by decide, rfl, rfl⟩, _, hW.mono (by omega)⟩
