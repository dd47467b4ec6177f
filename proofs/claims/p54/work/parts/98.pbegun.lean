/-! ===== the object at the law's begin ===== -/
theorem RS_init {r : Nat → Int32} (h1 : r 1 = nI 29) (h0 : ∀ j, j ≠ 1 → r j = nI 0) : RS 0 stZ r :=
  ⟨0, 29, Nat.le_refl 0, by omega, by omega, rfl, h0 0 (by omega), rfl, h1,
    ⟨0, by omega, rfl, h0 2 (by omega), fun j hj => ⟨0, 0, 0, 0, by omega, by omega, by omega, by omega, rfl, rfl, rfl, rfl, h0 _ (by omega), h0 _ (by omega), h0 _ (by omega), h0 _ (by omega)⟩⟩,
    ⟨0, by omega, rfl, h0 4 (by omega), fun i hi => absurd hi (Nat.not_lt_zero i)⟩,
    ⟨0, by omega, rfl, h0 3 (by omega), fun j hj => ⟨0, 0, by omega, Nat.le_refl 0, rfl, rfl, h0 _ (by omega), h0 _ (by omega)⟩⟩,
    ⟨0, Nat.le_refl 0, rfl, h0 5 (by omega), by rw [h0 6 (by omega), h0 7 (by omega), h0 8 (by omega), h0 9 (by omega), h0 10 (by omega)]; rfl, fun r1 hr => h0 _ (by omega), fun i hi => absurd hi (by omega), fun a ha r1 hr => ⟨fun _ => ⟨h0 _ (by omega), h0 _ (by omega)⟩, fun _ => ⟨h0 _ (by omega), h0 _ (by omega)⟩⟩⟩⟩
theorem TX_init : TX sbZ [] := ⟨Or.inl rfl, Nat.zero_le _, rfl, fun i hi => ⟨0, by omega, rfl⟩, fun i hi => absurd hi (Nat.not_lt_zero i), fun c hc => absurd hc List.not_mem_nil⟩
theorem MX_init : MX zF 0 [] := ⟨rfl, fun i hi => absurd hi (Nat.not_lt_zero i)⟩
theorem moZ_1 : moZ.1 1 = nI 29 := rfl
theorem moZ_0 (j : Nat) (h : j ≠ 1) : moZ.1 j = nI 0 := upd_ne zF 29 h
theorem RW_init : RW 0 mcZ stZ stZ hiZ hsZ sbZ sbZ moZ :=
  ⟨RS_init moZ_1 moZ_0, ⟨0, 0, by omega, by omega, rfl, rfl, rfl, fun i hi => absurd hi (Nat.not_lt_zero i)⟩, ⟨rfl, Or.inl rfl⟩, ⟨rfl, Or.inl rfl⟩, ⟨rfl, Or.inl rfl⟩,
    ⟨[], TX_init, MX_init, Nat.zero_le _, fun c hc => absurd hc List.not_mem_nil⟩, ⟨[], TX_init, MX_init, Nat.zero_le _⟩⟩
/-- a sum of k codes and small numbers -/
def SB (k : Nat) (x : Int32) : Prop := -(900005 * (k : Int)) ≤ x.toInt ∧ x.toInt ≤ 1048576 * (k : Int)
theorem SB_add {j k : Nat} {x y : Int32} (h : SB j x) (g : SB k y) (hk : j + k ≤ 100) : SB (j + k) (x + y) := by
  unfold SB at h g ⊢
  have e : (x + y).toInt = x.toInt + y.toInt := by
    rw [Int32.toInt_add, Int.bmod_eq_of_le (by omega) (by omega)]
  rw [e]
  omega
theorem SB.mono {j k : Nat} {x : Int32} (h : SB j x) (hk : j ≤ k) : SB k x := by
  unfold SB at h ⊢
  omega
theorem SB_0 : SB 0 0 := ⟨by decide, by decide⟩
theorem SB_n {j : Nat} (h : j ≤ 2 ^ 20) : SB 1 (nI j) := by
  unfold SB
  rw [nI_toInt (by omega)]
  omega
theorem SB_c {i : Nat} (h1 : 1 ≤ i) (h : i ≤ 4) : SB 1 (-nI (900000 + i)) := by
  rcases (show i = 1 ∨ i = 2 ∨ i = 3 ∨ i = 4 by omega) with rfl | rfl | rfl | rfl <;> exact ⟨by decide, by decide⟩
theorem SB_ge {k : Nat} {x : Int32} (h : SB k x) (hk : k ≤ 90) : (-90000000 : Int32) ≤ x := by
  unfold SB at h
  rw [Int32.le_iff_toInt_le, show (-90000000 : Int32).toInt = -90000000 from rfl]
  omega
theorem SB_gt {k : Nat} {x : Int32} (h : SB k x) (hk : k ≤ 90) : ¬ x ≤ (-90000000 : Int32) := by
  unfold SB at h
  rw [Int32.le_iff_toInt_le, show (-90000000 : Int32).toInt = -90000000 from rfl]
  omega
theorem ws_in {m dn : Nat} {v : StV} {hi : HiV} {hs : Nat → StV} {r : Int32 × StV × HiV × (Nat → StV)} (h : WS dn v hi hs r) (hJ : JS m v) (hm : m ≤ dn) : SB 1 r.1 ∧ JS m r.2.1 := by
  rcases h with ⟨i, i1, i4, e, e2⟩ | ⟨j, hj, e, -, J⟩
  · rw [e, e2]
    exact ⟨SB_c i1 i4, hJ⟩
  · rw [e]
    exact ⟨SB_n (by omega), J.mono hm⟩
/-- the first door is taken in -/
theorem AD_1 {a b c e : Nat} (ha : a < 256) (hb : b < 24) (hc : c < 24) (he : e < 8) : JS 1 (f_L_addDoor mcZ stZ hiZ hsZ (nI a) (nI b) (nI c) (nI e)).2.1 := by
  have f0 : f_X8_faultOfNewDoor stZ (nI a) (nI b) (nI c) (nI e) = 0 := by
    have : f_X2_faultOfRule (nI a) (nI b) (nI c) (nI e) = 0 := by
      unfold f_X2_faultOfRule
      rw [if_neg (nI_pos (by omega)), if_neg (show ¬ (255 : Int32) < nI a from nI_nlt (a := 255) (b := a) (by omega) (by decide)), if_neg (nI_pos (by omega)), if_neg (show ¬ (24 : Int32) ≤ nI b from nI_ge (b := 24) hb (by decide)), if_neg (nI_pos (by omega)), if_neg (show ¬ (24 : Int32) ≤ nI c from nI_ge (b := 24) hc (by decide)), if_neg (nI_pos (by omega)), if_neg (show ¬ (8 : Int32) ≤ nI e from nI_ge (b := 8) he (by decide))]
    unfold f_X8_faultOfNewDoor
    rw [this]; rfl
  obtain ⟨-, w, -⟩ := WS_addDoor RW_init JS_Z (by decide) (nI a) (nI b) (nI c) (nI e)
  rcases w with ⟨i, -, -, -, e2⟩ | ⟨j, -, -, -, J⟩
  · exfalso
    have e3 : (f_L_addDoor mcZ stZ hiZ hsZ (nI a) (nI b) (nI c) (nI e)).2.1.2.2.1.1 = 1 := by
      unfold f_L_addDoor f_X9_addDoor
      rw [f0]; rfl
    rw [e2] at e3
    exact absurd e3 (by decide)
  · exact J
def BI (k B : Nat) (r : Int32 × Int32 × StV × HiV × (Nat → StV)) : Prop := SB k r.2.1 ∧ JS 1 r.2.2.1 ∧ ∃ d, RW B mcZ r.2.2.1 stZ r.2.2.2.1 r.2.2.2.2 sbZ sbZ d
theorem be_22 {G : GG} (hL : scL G < 2 ^ 31) {nd : Nat} (hnd : nd ≤ 6) : ∀ (n k : Nat) (x2 : Int32) (v : StV) (hi : HiV) (hs : Nat → StV), n + k = 8 → 1 ≤ k → k ≤ nd → SB k x2 → JS 1 v → (∃ d, RW (240 * k) mcZ v stZ hi hs sbZ sbZ d) →
    okl_lp_L_begun_22 G (nI nd) n (nI k) x2 v hi hs ∧ BI 6 1440 (lp_L_begun_22 G (nI nd) n (nI k) x2 v hi hs) := by
  intro n
  induction n with
  | zero => intro k x2 v hi hs h; omega
  | succ n ih =>
    intro k x2 v hi hs hk h1 h2 hS hJ hW
    obtain ⟨d, hW⟩ := hW
    unfold okl_lp_L_begun_22 lp_L_begun_22
    by_cases g : nd ≤ k
    · rw [if_pos (nI_le g (by omega)), if_pos (nI_le g (by omega))]
      exact ⟨trivial, hS.mono (by omega), hJ, d, hW.mono (by omega)⟩
    · rw [if_neg (nI_ge (by omega) (by omega)), if_neg (nI_ge (by omega) (by omega))]
      simp only [forall_eq, show (1 : Int32) + nI k = nI (1 + k) from nI_add 1 k, show (7 : Int32) + nI k = nI (7 + k) from nI_add 7 k, show (13 : Int32) + nI k = nI (13 + k) from nI_add 13 k, show (19 : Int32) + nI k = nI (19 + k) from nI_add 19 k, show (25 : Int32) + nI k = nI (25 + k) from nI_add 25 k, nI_1]
      have o1 := (in_ok hL (x := 1 + k) (n := 3) (by omega) (by decide) (by decide)).1
      have o7 := (in_ok hL (x := 7 + k) (n := 256) (by omega) (by decide) (by decide)).1
      have o13 := (in_ok hL (x := 13 + k) (n := 24) (by omega) (by decide) (by decide)).1
      have o19 := (in_ok hL (x := 19 + k) (n := 24) (by omega) (by decide) (by decide)).1
      have o25 := (in_ok hL (x := 25 + k) (n := 4) (by omega) (by decide) (by decide)).1
      have st : ∀ a b c e : Int32, ok_L_addDoor mcZ v hi hs a b c e ∧ okl_lp_L_begun_22 G (nI nd) n (nI (k + 1)) (x2 + (f_L_addDoor mcZ v hi hs a b c e).1) (f_L_addDoor mcZ v hi hs a b c e).2.1 (f_L_addDoor mcZ v hi hs a b c e).2.2.1 (f_L_addDoor mcZ v hi hs a b c e).2.2.2 ∧ BI 6 1440 (lp_L_begun_22 G (nI nd) n (nI (k + 1)) (x2 + (f_L_addDoor mcZ v hi hs a b c e).1) (f_L_addDoor mcZ v hi hs a b c e).2.1 (f_L_addDoor mcZ v hi hs a b c e).2.2.1 (f_L_addDoor mcZ v hi hs a b c e).2.2.2) := fun a b c e => by
        obtain ⟨w1, w2, d1, w3⟩ := WS_addDoor hW hJ (by omega) a b c e
        obtain ⟨s1, j1⟩ := ws_in w2 hJ (by omega)
        have K := ih (k + 1) _ _ _ _ (by omega) (by omega) (by omega) (SB_add hS s1 (by omega)) j1 ⟨d1, w3.mono (by omega)⟩
        exact ⟨w1, K.1, K.2⟩
      by_cases c : f_L_in G (nI (1 + k)) 3 = 0
      · rw [if_pos c, if_pos c]
        obtain ⟨w1, w2, w3⟩ := st 255 (f_L_in G (nI (13 + k)) 24) (f_L_in G (nI (19 + k)) 24) (f_L_in G (nI (25 + k)) 4)
        exact ⟨⟨o1, o13, o19, o25, w1, w2⟩, w3⟩
      · rw [if_neg c, if_neg c]
        obtain ⟨w1, w2, w3⟩ := st (f_L_in G (nI (7 + k)) 256) (f_L_in G (nI (13 + k)) 24) (f_L_in G (nI (19 + k)) 24) (f_L_in G (nI (25 + k)) 4)
        exact ⟨⟨o1, o7, o13, o19, o25, w1, w2⟩, w3⟩
/-- the first step too -/
theorem be_22a {G : GG} (hL : scL G < 2 ^ 31) {nd : Nat} (h0 : 1 ≤ nd) (hnd : nd ≤ 6) : okl_lp_L_begun_22 G (nI nd) 8 0 0 stZ hiZ hsZ ∧ BI 6 1440 (lp_L_begun_22 G (nI nd) 8 0 0 stZ hiZ hsZ) := by
  obtain ⟨o1, -⟩ := in_ok hL (x := 1) (n := 3) (by omega) (by decide) (by decide)
  obtain ⟨o7, a, ha, ea⟩ := in_ok hL (x := 7) (n := 256) (by omega) (by decide) (by decide)
  obtain ⟨o13, b, hb, eb⟩ := in_ok hL (x := 13) (n := 24) (by omega) (by decide) (by decide)
  obtain ⟨o19, c, hc, ec⟩ := in_ok hL (x := 19) (n := 24) (by omega) (by decide) (by decide)
  obtain ⟨o25, e, he, ee⟩ := in_ok hL (x := 25) (n := 4) (by omega) (by decide) (by decide)
  have ea : f_L_in G 7 256 = nI a := ea
  have eb : f_L_in G 13 24 = nI b := eb
  have ec : f_L_in G 19 24 = nI c := ec
  have ee : f_L_in G 25 4 = nI e := ee
  unfold okl_lp_L_begun_22 lp_L_begun_22
  rw [if_neg (show ¬ nI nd ≤ 0 from nI_ge (a := 0) h0 (by omega)), if_neg (show ¬ nI nd ≤ 0 from nI_ge (a := 0) h0 (by omega))]
  simp only [forall_eq, Int32.add_zero, Int32.zero_add, eb, ec, ee, ea]
  have st : ∀ x : Nat, x < 256 → ok_L_addDoor mcZ stZ hiZ hsZ (nI x) (nI b) (nI c) (nI e) ∧ okl_lp_L_begun_22 G (nI nd) 7 1 (f_L_addDoor mcZ stZ hiZ hsZ (nI x) (nI b) (nI c) (nI e)).1 (f_L_addDoor mcZ stZ hiZ hsZ (nI x) (nI b) (nI c) (nI e)).2.1 (f_L_addDoor mcZ stZ hiZ hsZ (nI x) (nI b) (nI c) (nI e)).2.2.1 (f_L_addDoor mcZ stZ hiZ hsZ (nI x) (nI b) (nI c) (nI e)).2.2.2 ∧ BI 6 1440 (lp_L_begun_22 G (nI nd) 7 1 (f_L_addDoor mcZ stZ hiZ hsZ (nI x) (nI b) (nI c) (nI e)).1 (f_L_addDoor mcZ stZ hiZ hsZ (nI x) (nI b) (nI c) (nI e)).2.1 (f_L_addDoor mcZ stZ hiZ hsZ (nI x) (nI b) (nI c) (nI e)).2.2.1 (f_L_addDoor mcZ stZ hiZ hsZ (nI x) (nI b) (nI c) (nI e)).2.2.2) := fun x hx => by
    obtain ⟨w1, w2, d1, w3⟩ := WS_addDoor RW_init JS_Z (by omega) (nI x) (nI b) (nI c) (nI e)
    have K := be_22 hL hnd 7 1 _ _ _ _ rfl (by omega) h0 (ws_in w2 JS_Z (by omega)).1 (AD_1 hx hb hc (by omega)) ⟨d1, w3.mono (by omega)⟩
    exact ⟨w1, K.1, K.2⟩
  by_cases z : f_L_in G 1 3 = 0
  · rw [if_pos z, if_pos z]
    obtain ⟨w1, w2, w3⟩ := st 255 (by decide)
    exact ⟨⟨o1, o13, o19, o25, w1, w2⟩, w3⟩
  · rw [if_neg z, if_neg z]
    obtain ⟨w1, w2, w3⟩ := st a ha
    exact ⟨⟨o1, o7, o13, o19, o25, w1, w2⟩, w3⟩
theorem be_106 {G : GG} (hL : scL G < 2 ^ 31) {nd : Nat} (h0 : 1 ≤ nd) (hnd : nd ≤ 6) (r : Int32 × Int32 × StV × HiV × (Nat → StV)) : ∀ (n k : Nat) (x2 : Int32) (v : StV) (hi : HiV) (hs : Nat → StV), n + k = 4 → k ≤ 3 → SB (6 + 4 * k) x2 → JS 1 v → (∃ d, RW (1440 + 960 * k) mcZ v stZ hi hs sbZ sbZ d) →
    okl_lp_L_begun_106 G (nI nd) r n (nI k) x2 v hi hs ∧ BI 18 4320 (lp_L_begun_106 G (nI nd) r n (nI k) x2 v hi hs) := by
  intro n
  induction n with
  | zero => intro k x2 v hi hs h; omega
  | succ n ih =>
    intro k x2 v hi hs hk h2 hS hJ hW
    obtain ⟨d, hW⟩ := hW
    unfold okl_lp_L_begun_106 lp_L_begun_106
    rw [show (3 : Int32) = nI 3 from rfl]
    by_cases g : 3 ≤ k
    · rw [if_pos (nI_le g (by omega)), if_pos (nI_le g (by omega))]
      exact ⟨trivial, hS.mono (by omega), hJ, d, hW.mono (by omega)⟩
    · rw [if_neg (nI_ge (by omega) (by omega)), if_neg (nI_ge (by omega) (by omega))]
      simp only [forall_eq, show (31 : Int32) + nI k = nI (31 + k) from nI_add 31 k, show (34 : Int32) + nI k = nI (34 + k) from nI_add 34 k, show (37 : Int32) + nI k = nI (37 + k) from nI_add 37 k, show (40 : Int32) + nI k = nI (40 + k) from nI_add 40 k, show (43 : Int32) + nI k = nI (43 + k) from nI_add 43 k, nI_1]
      have o31 := (in_ok hL (x := 31 + k) (n := 4) (by omega) (by decide) (by decide)).1
      have o34 := (in_ok hL (x := 34 + k) (n := 8) (by omega) (by decide) (by decide)).1
      have o37 := (in_ok hL (x := 37 + k) (n := nd) (by omega) (by omega) (by omega)).1
      have o40 := (in_ok hL (x := 40 + k) (n := 6) (by omega) (by decide) (by decide)).1
      have o43 := (in_ok hL (x := 43 + k) (n := 2) (by omega) (by decide) (by decide)).1
      obtain ⟨a1, a2, d1, a3⟩ := WS_addPerson hW hJ (by omega)
      obtain ⟨s1, j1⟩ := ws_in a2 hJ (by omega)
      generalize f_L_addPerson mcZ v hi hs = u1 at a1 a2 a3 s1 j1 ⊢
      obtain ⟨b1, b2, d2, b3⟩ := WS_giveKey a3 j1 (by omega) (nI k) (f_L_in G (nI (31 + k)) 4)
      obtain ⟨s2, j2⟩ := ws_in b2 j1 (by omega)
      generalize f_L_giveKey mcZ u1.2.1 u1.2.2.1 u1.2.2.2 (nI k) (f_L_in G (nI (31 + k)) 4) = u2 at b1 b2 b3 s2 j2 ⊢
      obtain ⟨c1, c2, d3, c3⟩ := WS_giveKey b3 j2 (by omega) (nI k) (f_L_in G (nI (34 + k)) 8)
      obtain ⟨s3, j3⟩ := ws_in c2 j2 (by omega)
      generalize f_L_giveKey mcZ u2.2.1 u2.2.2.1 u2.2.2.2 (nI k) (f_L_in G (nI (34 + k)) 8) = u3 at c1 c2 c3 s3 j3 ⊢
      have st : ∀ (a b op : Int32), (op = 0 ∨ op = 1) → ok_L_addException mcZ u3.2.1 u3.2.2.1 u3.2.2.2 a b op ∧ okl_lp_L_begun_106 G (nI nd) r n (nI (k + 1)) ((x2 + ((u1.1 + u2.1) + u3.1)) + (f_L_addException mcZ u3.2.1 u3.2.2.1 u3.2.2.2 a b op).1) (f_L_addException mcZ u3.2.1 u3.2.2.1 u3.2.2.2 a b op).2.1 (f_L_addException mcZ u3.2.1 u3.2.2.1 u3.2.2.2 a b op).2.2.1 (f_L_addException mcZ u3.2.1 u3.2.2.1 u3.2.2.2 a b op).2.2.2 ∧ BI 18 4320 (lp_L_begun_106 G (nI nd) r n (nI (k + 1)) ((x2 + ((u1.1 + u2.1) + u3.1)) + (f_L_addException mcZ u3.2.1 u3.2.2.1 u3.2.2.2 a b op).1) (f_L_addException mcZ u3.2.1 u3.2.2.1 u3.2.2.2 a b op).2.1 (f_L_addException mcZ u3.2.1 u3.2.2.1 u3.2.2.2 a b op).2.2.1 (f_L_addException mcZ u3.2.1 u3.2.2.1 u3.2.2.2 a b op).2.2.2) := fun a b op hop => by
        obtain ⟨w1, w2, d4, w3⟩ := WS_addException c3 j3 (by omega) a b op hop
        obtain ⟨s4, j4⟩ := ws_in w2 j3 (by omega)
        have K := ih (k + 1) _ _ _ _ (by omega) (by omega) ((SB_add (SB_add hS (SB_add (SB_add s1 s2 (by omega)) s3 (by omega)) (by omega)) s4 (by omega)).mono (by omega)) j4 ⟨d4, w3.mono (by omega)⟩
        exact ⟨w1, K.1, K.2⟩
      have y0 : ¬ nI nd = 0 := nI_ne0 (by omega) (by omega)
      by_cases c : f_L_in G (nI (43 + k)) 2 = 0
      · rw [if_pos c, if_pos c]
        obtain ⟨w1, w2, w3⟩ := st (f_L_in G (nI (37 + k)) (nI nd)) (f_L_in G (nI (40 + k)) 6) 1 (Or.inr rfl)
        exact ⟨⟨a1, o31, b1, o34, c1, o37, y0, o40, o43, w1, w2⟩, w3⟩
      · rw [if_neg c, if_neg c]
        obtain ⟨w1, w2, w3⟩ := st (f_L_in G (nI (37 + k)) (nI nd)) (f_L_in G (nI (40 + k)) 6) 0 (Or.inl rfl)
        exact ⟨⟨a1, o31, b1, o34, c1, o37, y0, o40, o43, w1, w2⟩, w3⟩
theorem be_258 {G : GG} (hL : scL G < 2 ^ 31) {nd : Nat} (h0 : 1 ≤ nd) (hnd : nd ≤ 6) (r r2 : Int32 × Int32 × StV × HiV × (Nat → StV)) (uu : Int32 × StV × HiV × (Nat → StV)) : ∀ (n k : Nat) (x2 : Int32) (v : StV) (hi : HiV) (hs : Nat → StV), n + k = 5 → k ≤ 4 → SB (20 + k) x2 → JS 1 v → (∃ d, RW (4800 + 240 * k) mcZ v stZ hi hs sbZ sbZ d) →
    okl_lp_L_begun_258 G (nI nd) r r2 uu n (nI k) x2 v hi hs ∧ BI 24 5760 (lp_L_begun_258 G (nI nd) r r2 uu n (nI k) x2 v hi hs) := by
  intro n
  induction n with
  | zero => intro k x2 v hi hs h; omega
  | succ n ih =>
    intro k x2 v hi hs hk h2 hS hJ hW
    obtain ⟨d, hW⟩ := hW
    unfold okl_lp_L_begun_258 lp_L_begun_258
    rw [show (4 : Int32) = nI 4 from rfl]
    by_cases g : 4 ≤ k
    · rw [if_pos (nI_le g (by omega)), if_pos (nI_le g (by omega))]
      exact ⟨trivial, hS.mono (by omega), hJ, d, hW.mono (by omega)⟩
    · rw [if_neg (nI_ge (by omega) (by omega)), if_neg (nI_ge (by omega) (by omega))]
      simp only [forall_eq, show (49 : Int32) + nI k = nI (49 + k) from nI_add 49 k, show (53 : Int32) + nI k = nI (53 + k) from nI_add 53 k, nI_1]
      have o49 := (in_ok hL (x := 49 + k) (n := 3) (by omega) (by decide) (by decide)).1
      have o53 := (in_ok hL (x := 53 + k) (n := nd) (by omega) (by omega) (by omega)).1
      obtain ⟨w1, w2, d1, w3⟩ := WS_tryDoor hW hJ (by omega) (f_L_in G (nI (49 + k)) 3) (f_L_in G (nI (53 + k)) (nI nd))
      obtain ⟨s1, j1⟩ := ws_in w2 hJ (by omega)
      have K := ih (k + 1) _ _ _ _ (by omega) (by omega) ((SB_add hS s1 (by omega)).mono (by omega)) j1 ⟨d1, w3.mono (by omega)⟩
      exact ⟨⟨o49, o53, nI_ne0 (by omega) (by omega), w1, K.1⟩, K.2⟩
theorem be_258' {G : GG} (hL : scL G < 2 ^ 31) {nd : Nat} (h0 : 1 ≤ nd) (hnd : nd ≤ 6) (r r2 : Int32 × Int32 × StV × HiV × (Nat → StV)) (uu uu2 : Int32 × StV × HiV × (Nat → StV)) : ∀ (n k : Nat) (x2 : Int32) (v : StV) (hi : HiV) (hs : Nat → StV), n + k = 5 → k ≤ 4 → SB (20 + k) x2 → JS 1 v → (∃ d, RW (4800 + 240 * k) mcZ v stZ hi hs sbZ sbZ d) →
    okl_lp_L_begun_258' G (nI nd) r r2 uu uu2 n (nI k) x2 v hi hs ∧ BI 24 5760 (lp_L_begun_258' G (nI nd) r r2 uu uu2 n (nI k) x2 v hi hs) := by
  intro n
  induction n with
  | zero => intro k x2 v hi hs h; omega
  | succ n ih =>
    intro k x2 v hi hs hk h2 hS hJ hW
    obtain ⟨d, hW⟩ := hW
    unfold okl_lp_L_begun_258' lp_L_begun_258'
    rw [show (4 : Int32) = nI 4 from rfl]
    by_cases g : 4 ≤ k
    · rw [if_pos (nI_le g (by omega)), if_pos (nI_le g (by omega))]
      exact ⟨trivial, hS.mono (by omega), hJ, d, hW.mono (by omega)⟩
    · rw [if_neg (nI_ge (by omega) (by omega)), if_neg (nI_ge (by omega) (by omega))]
      simp only [forall_eq, show (49 : Int32) + nI k = nI (49 + k) from nI_add 49 k, show (53 : Int32) + nI k = nI (53 + k) from nI_add 53 k, nI_1]
      have o49 := (in_ok hL (x := 49 + k) (n := 3) (by omega) (by decide) (by decide)).1
      have o53 := (in_ok hL (x := 53 + k) (n := nd) (by omega) (by omega) (by omega)).1
      obtain ⟨w1, w2, d1, w3⟩ := WS_tryDoor hW hJ (by omega) (f_L_in G (nI (49 + k)) 3) (f_L_in G (nI (53 + k)) (nI nd))
      obtain ⟨s1, j1⟩ := ws_in w2 hJ (by omega)
      have K := ih (k + 1) _ _ _ _ (by omega) (by omega) ((SB_add hS s1 (by omega)).mono (by omega)) j1 ⟨d1, w3.mono (by omega)⟩
      exact ⟨⟨o49, o53, nI_ne0 (by omega) (by omega), w1, K.1⟩, K.2⟩
/-- what stands at the law's begin: a new object with doors, persons, exceptions, some hours and attempts -/
def BP (r : McV × StV × StV × HiV × (Nat → StV) × PrV × SbV × SbV) : Prop := ∃ v hi hs, r = (mcZ, v, stZ, hi, hs, prZ, sbZ, sbZ) ∧ JS 1 v ∧ ∃ d, RW 5760 mcZ v stZ hi hs sbZ sbZ d
theorem begun_ok {G : GG} (hL : scL G < 2 ^ 31) : ok_L_begun G ∧ BP (f_L_begun G) := by
  obtain ⟨o0, j0, h0, e0⟩ := in_ok hL (x := 0) (n := 5) (by omega) (by decide) (by decide)
  have o46 := (in_ok hL (x := 46) (n := 3) (by omega) (by decide) (by decide)).1
  have o47 := (in_ok hL (x := 47) (n := 9) (by omega) (by decide) (by decide)).1
  have o48 := (in_ok hL (x := 48) (n := 60) (by omega) (by decide) (by decide)).1
  have e0 : (2 : Int32) + f_L_in G 0 5 = nI (2 + j0) := by rw [show f_L_in G 0 5 = nI j0 from e0]; exact nI_add 2 j0
  have D := be_22a hL (nd := 2 + j0) (by omega) (by omega)
  obtain ⟨R, hR⟩ : ∃ r, r = lp_L_begun_22 G (nI (2 + j0)) 8 0 0 stZ hiZ hsZ := ⟨_, rfl⟩
  rw [← hR] at D
  obtain ⟨D1, D2, D3, D4⟩ := D
  have P := be_106 hL (nd := 2 + j0) (by omega) (by omega) R 4 0 R.2.1 R.2.2.1 R.2.2.2.1 R.2.2.2.2 rfl (by omega) D2 D3 D4
  obtain ⟨S, hS⟩ : ∃ r, r = lp_L_begun_106 G (nI (2 + j0)) R 4 0 R.2.1 R.2.2.1 R.2.2.2.1 R.2.2.2.2 := ⟨_, rfl⟩
  rw [show nI 0 = (0 : Int32) from rfl, ← hS] at P
  obtain ⟨P1, P2, P3, d1, P4⟩ := P
  by_cases g : f_L_in G 46 3 = 0
  · obtain ⟨c1, c2, d2, c3⟩ := WS_setCycle P4 P3 (by omega) ((24 : Int32) + f_L_in G 47 9)
    obtain ⟨s2, j2⟩ := ws_in c2 P3 (by omega)
    obtain ⟨T, hT⟩ : ∃ r, r = f_L_setCycle mcZ S.2.2.1 S.2.2.2.1 S.2.2.2.2 ((24 : Int32) + f_L_in G 47 9) := ⟨_, rfl⟩
    rw [← hT] at c3 s2 j2
    obtain ⟨a1, a2, d3, a3⟩ := WS_advance c3 j2 (by omega) ((1 : Int32) + f_L_in G 48 60)
    obtain ⟨s3, j3⟩ := ws_in a2 j2 (by omega)
    obtain ⟨U, hU⟩ : ∃ r, r = f_L_advance mcZ T.2.1 T.2.2.1 T.2.2.2 ((1 : Int32) + f_L_in G 48 60) := ⟨_, rfl⟩
    rw [← hU] at a3 s3 j3
    have Q := be_258' hL (nd := 2 + j0) (by omega) (by omega) R S T U 5 0 ((S.2.1 + T.1) + U.1) U.2.1 U.2.2.1 U.2.2.2 rfl (by omega) ((SB_add (SB_add P2 s2 (by omega)) s3 (by omega)).mono (by omega)) j3 ⟨d3, a3.mono (by omega)⟩
    obtain ⟨V, hV⟩ : ∃ r, r = lp_L_begun_258' G (nI (2 + j0)) R S T U 5 0 ((S.2.1 + T.1) + U.1) U.2.1 U.2.2.1 U.2.2.2 := ⟨_, rfl⟩
    rw [show nI 0 = (0 : Int32) from rfl, ← hV] at Q
    obtain ⟨Q1, Q2, Q3, Q4⟩ := Q
    constructor
    · unfold ok_L_begun
      rw [e0]
      refine ⟨o0, fun y hy => ?_⟩
      subst hy
      refine ⟨D1, fun r hr => ?_⟩
      rw [← hR] at hr
      subst hr
      refine ⟨P1, fun r hr => ?_⟩
      rw [← hS] at hr
      subst hr
      refine ⟨o46, ?_⟩
      rw [if_pos g]
      refine ⟨o47, c1, fun r hr => ?_⟩
      rw [← hT] at hr
      subst hr
      refine ⟨o48, a1, fun r hr => ?_⟩
      rw [← hU] at hr
      subst hr
      refine ⟨Q1, fun r hr => ?_⟩
      rw [← hV] at hr
      subst hr
      rw [if_pos (SB_ge Q2 (by omega))]
      trivial
    · unfold f_L_begun
      rw [e0, if_pos g]
      simp only [← hR, ← hS, ← hT, ← hU, ← hV]
      rw [if_pos (SB_ge Q2 (by omega))]
      exact ⟨_, _, _, rfl, Q3, Q4⟩
  · obtain ⟨a1, a2, d3, a3⟩ := WS_advance P4 P3 (by omega) ((1 : Int32) + f_L_in G 48 60)
    obtain ⟨s3, j3⟩ := ws_in a2 P3 (by omega)
    obtain ⟨U, hU⟩ : ∃ r, r = f_L_advance mcZ S.2.2.1 S.2.2.2.1 S.2.2.2.2 ((1 : Int32) + f_L_in G 48 60) := ⟨_, rfl⟩
    rw [← hU] at a3 s3 j3
    have Q := be_258 hL (nd := 2 + j0) (by omega) (by omega) R S U 5 0 ((S.2.1 + 0) + U.1) U.2.1 U.2.2.1 U.2.2.2 rfl (by omega) ((SB_add (SB_add P2 SB_0 (by omega)) s3 (by omega)).mono (by omega)) j3 ⟨d3, a3.mono (by omega)⟩
    obtain ⟨V, hV⟩ : ∃ r, r = lp_L_begun_258 G (nI (2 + j0)) R S U 5 0 ((S.2.1 + 0) + U.1) U.2.1 U.2.2.1 U.2.2.2 := ⟨_, rfl⟩
    rw [show nI 0 = (0 : Int32) from rfl, ← hV] at Q
    obtain ⟨Q1, Q2, Q3, Q4⟩ := Q
    constructor
    · unfold ok_L_begun
      rw [e0]
      refine ⟨o0, fun y hy => ?_⟩
      subst hy
      refine ⟨D1, fun r hr => ?_⟩
      rw [← hR] at hr
      subst hr
      refine ⟨P1, fun r hr => ?_⟩
      rw [← hS] at hr
      subst hr
      refine ⟨o46, ?_⟩
      rw [if_neg g]
      refine ⟨o48, a1, fun r hr => ?_⟩
      rw [← hU] at hr
      subst hr
      refine ⟨Q1, fun r hr => ?_⟩
      rw [← hV] at hr
      subst hr
      rw [if_pos (SB_ge Q2 (by omega))]
      trivial
    · unfold f_L_begun
      rw [e0, if_neg g]
      simp only [← hR, ← hS, ← hU, ← hV]
      rw [if_pos (SB_ge Q2 (by omega))]
      exact ⟨_, _, _, rfl, Q3, Q4⟩
