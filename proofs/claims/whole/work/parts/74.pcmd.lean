/-! ===== one command, as the reference reads it ===== -/
theorem par_P {g : Nat → Nat} {k p : Nat} (h : k ≤ 2) : par g k p = parP g p := if_pos h
theorem par_D {g : Nat → Nat} {k p : Nat} (h : ¬ k ≤ 2) (h2 : k ≤ 5) : par g k p = parD g p := (if_neg h).trans (if_pos h2)
theorem par_N {g : Nat → Nat} {k p : Nat} (h : ¬ k ≤ 2) (h2 : ¬ k ≤ 5) : par g k p = parN g p := (if_neg h).trans (if_neg h2)
theorem z_13 (e : MoV) (x : Int32) : (mo15 e x).2.2.2.2.2.2.2.2.2.2.2.2.2.1 = e.2.2.2.2.2.2.2.2.2.2.2.2.2.1 := rfl
theorem z_15 (e : MoV) (x : Int32) : (mo15 e x).2.2.2.2.2.2.2.2.2.2.2.2.2.2.2.1 = x := rfl
theorem z_16 (e : MoV) (x : Int32) : (mo15 e x).2.2.2.2.2.2.2.2.2.2.2.2.2.2.2.2 = e.2.2.2.2.2.2.2.2.2.2.2.2.2.2.2.2 := rfl
theorem z_1315 (e : MoV) (x : Int32) (u : Nat → Int32) : mo13 (mo15 e x) u = mo15 (mo13 e u) x := rfl
theorem z_1515 (e : MoV) (x y : Int32) : mo15 (mo15 e x) y = mo15 e y := rfl
theorem z_1615 (e : MoV) (x y : Int32) : mo16 (mo15 e x) y = mo15 (mo16 e y) x := by
  obtain ⟨a0, a1, a2, a3, a4, a5, a6, a7, a8, a9, a10, a11, a12, a13, a14, a15, a16⟩ := e
  have h1 : mo16 (mo15 (a0, a1, a2, a3, a4, a5, a6, a7, a8, a9, a10, a11, a12, a13, a14, a15, a16) x) y = (a0, a1, a2, a3, a4, a5, a6, a7, a8, a9, a10, a11, a12, a13, a14, x, y) := rfl
  have h2 : mo15 (mo16 (a0, a1, a2, a3, a4, a5, a6, a7, a8, a9, a10, a11, a12, a13, a14, a15, a16) y) x = (a0, a1, a2, a3, a4, a5, a6, a7, a8, a9, a10, a11, a12, a13, a14, x, y) := rfl
  exact h1.trans h2.symm
theorem z_13b (e : MoV) (U : Nat → Int32) (K : Int32) : (mo16 (mo13 e U) K).2.2.2.2.2.2.2.2.2.2.2.2.2.1 = U := rfl
theorem z_1316 (e : MoV) (U V : Nat → Int32) (K : Int32) : mo13 (mo16 (mo13 e U) K) V = mo16 (mo13 e V) K := by
  obtain ⟨a0, a1, a2, a3, a4, a5, a6, a7, a8, a9, a10, a11, a12, a13, a14, a15, a16⟩ := e
  have h1 : mo13 (mo16 (mo13 (a0, a1, a2, a3, a4, a5, a6, a7, a8, a9, a10, a11, a12, a13, a14, a15, a16) U) K) V = (a0, a1, a2, a3, a4, a5, a6, a7, a8, a9, a10, a11, a12, V, a14, a15, K) := rfl
  have h2 : mo16 (mo13 (a0, a1, a2, a3, a4, a5, a6, a7, a8, a9, a10, a11, a12, a13, a14, a15, a16) V) K = (a0, a1, a2, a3, a4, a5, a6, a7, a8, a9, a10, a11, a12, V, a14, a15, K) := rfl
  exact h1.trans h2.symm
theorem z_12b (e : MoV) (U : Nat → Int32) (K : Int32) : (mo16 (mo13 e U) K).2.2.2.2.2.2.2.2.2.2.2.2.1 = e.2.2.2.2.2.2.2.2.2.2.2.2.1 := by
  obtain ⟨a0, a1, a2, a3, a4, a5, a6, a7, a8, a9, a10, a11, a12, a13, a14, a15, a16⟩ := e
  exact (rfl : _ = a12)
theorem z_14b (e : MoV) (U : Nat → Int32) (K : Int32) : (mo16 (mo13 e U) K).2.2.2.2.2.2.2.2.2.2.2.2.2.2.1 = e.2.2.2.2.2.2.2.2.2.2.2.2.2.2.1 := by
  obtain ⟨a0, a1, a2, a3, a4, a5, a6, a7, a8, a9, a10, a11, a12, a13, a14, a15, a16⟩ := e
  exact (rfl : _ = a14)
theorem hM_b {l : List Nat} {e : MoV} (hM : MX e.2.2.2.2.2.2.2.2.2.2.2.2.1 e.2.2.2.2.2.2.2.2.2.2.2.2.2.2.1 l) (U : Nat → Int32) (K : Int32) : MX (mo16 (mo13 e U) K).2.2.2.2.2.2.2.2.2.2.2.2.1 (mo16 (mo13 e U) K).2.2.2.2.2.2.2.2.2.2.2.2.2.2.1 l := by
  rw [z_12b, z_14b]; exact hM
theorem rT_0 (d X Y : MoV) (i : Int32) (s : f_X10_isSign d 97 = (0, X)) (hY : mo13 X (upd X.2.2.2.2.2.2.2.2.2.2.2.2.2.1 i.toNatClampNeg 114) = Y) :
    f_X10_readsT d i = (let u : Int32 × MoV := f_X10_isWord Y 10; (if u.1 = 0 then ((0 : Int32), u.2) else (let v : Int32 × MoV := f_X10_isPair u.2 i; (if v.1 = 0 then ((0 : Int32), v.2) else (1, v.2))))) ∧
    (ok_X10_isSign d 97 → vp_in i 93 → (ok_X10_isWord Y 10 ∧ (let u : Int32 × MoV := f_X10_isWord Y 10; (if u.1 = 0 then True else ok_X10_isPair u.2 i ∧ True))) → ok_X10_readsT d i) := by
  subst hY
  unfold f_X10_readsT ok_X10_readsT
  rw [s]
  exact ⟨if_pos rfl, fun a b c => ⟨a, (if_pos rfl).mpr ⟨b, c⟩⟩⟩
theorem rT_1 (d X : MoV) (i : Int32) (s : f_X10_isSign d 97 = (1, X)) :
    f_X10_readsT d i = (let u : Int32 × MoV := f_X10_isWord X 9; (if u.1 = 0 then ((0 : Int32), u.2) else (let v : Int32 × MoV := f_X10_isPair u.2 i; (if v.1 = 0 then ((0 : Int32), v.2) else (1, v.2))))) ∧
    (ok_X10_isSign d 97 → (ok_X10_isWord X 9 ∧ (let u : Int32 × MoV := f_X10_isWord X 9; (if u.1 = 0 then True else ok_X10_isPair u.2 i ∧ True))) → ok_X10_readsT d i) := by
  unfold f_X10_readsT ok_X10_readsT
  rw [s]
  exact ⟨if_neg (show ¬ (1 : Int32) = 0 by decide), fun a c => ⟨a, (if_neg (show ¬ (1 : Int32) = 0 by decide)).mpr c⟩⟩
theorem rc_eq (d : MoV) (s k : Int32) (A : MoV) (hs : f_X10_sign d = s) (hk : d.2.2.2.2.2.2.2.2.2.2.2.2.2.2.2.2 = k) (hA : mo16 (mo15 (mo13 d (upd d.2.2.2.2.2.2.2.2.2.2.2.2.2.1 (3 * d.2.2.2.2.2.2.2.2.2.2.2.2.2.2.2.2).toNatClampNeg s)) (d.2.2.2.2.2.2.2.2.2.2.2.2.2.2.2.1 + 1)) (d.2.2.2.2.2.2.2.2.2.2.2.2.2.2.2.2 + 1) = A) :
    f_X10_readsCommand d = (if f_X10_isFirst s = 0 then ((0 : Int32), d) else ((f_X10_readsRest A s (3 * k)).1, (f_X10_readsRest A s (3 * k)).2)) ∧ ok_X10_readsCommand d = (ok_X10_sign d ∧ (if f_X10_isFirst s = 0 then True else (vp_in (3 * k) 93 ∧ (ok_X10_readsRest A s (3 * k) ∧ True)))) := by
  subst hs; subst hk; subst hA
  exact ⟨rfl, rfl⟩
theorem y_fin {l : List Nat} {e : MoV} (hM : MX e.2.2.2.2.2.2.2.2.2.2.2.2.1 e.2.2.2.2.2.2.2.2.2.2.2.2.2.2.1 l) (hl : l.length ≤ 60) {p k c0 : Nat} (hp : p < 2 ^ 26) (he : e.2.2.2.2.2.2.2.2.2.2.2.2.2.2.2.2 = nI k) (hpl : p < l.length) (hk : k ≤ 29) (hc : l.getD p 0 = c0) (hf : f_X10_isFirst (nI c0) = 1) (C : Bool × Nat × Nat × Nat × Nat)
    (hR : (∃ m : Nat → Int32, f_X10_readsRest (mo15 (mo16 (mo13 e (upd e.2.2.2.2.2.2.2.2.2.2.2.2.2.1 (3 * k) (nI c0))) (nI (k + 1))) (nI (p + 1))) (nI c0) (nI (3 * k)) = ((if C.1 = true then 1 else 0), mo15 (mo16 (mo13 e m) (nI (k + 1))) (nI C.2.2.2.2)) ∧ (∀ i, i < 3 * k → m i = e.2.2.2.2.2.2.2.2.2.2.2.2.2.1 i) ∧ (C.1 = true → prow m k C)) ∧ ok_X10_readsRest (mo15 (mo16 (mo13 e (upd e.2.2.2.2.2.2.2.2.2.2.2.2.2.1 (3 * k) (nI c0))) (nI (k + 1))) (nI (p + 1))) (nI c0) (nI (3 * k))) :
    (∃ (m : Nat → Int32) (x : Int32), f_X10_readsCommand (mo15 e (nI p)) = ((if C.1 = true then 1 else 0), mo15 (mo16 (mo13 e m) x) (nI C.2.2.2.2)) ∧ (∀ i, i < 3 * k → m i = e.2.2.2.2.2.2.2.2.2.2.2.2.2.1 i) ∧ (C.1 = true → x = nI (k + 1) ∧ prow m k C)) ∧ ok_X10_readsCommand (mo15 e (nI p)) := by
  obtain ⟨a, b⟩ := y_sign hM hl (p := p) (by omega)
  rw [if_pos hpl, hc] at a
  obtain ⟨⟨m, h1, h2, h3⟩, h4⟩ := hR
  have n1 : ¬ (1 : Int32) = 0 := by decide
  have hA : mo16 (mo15 (mo13 (mo15 e (nI p)) (upd (mo15 e (nI p)).2.2.2.2.2.2.2.2.2.2.2.2.2.1 (3 * (mo15 e (nI p)).2.2.2.2.2.2.2.2.2.2.2.2.2.2.2.2).toNatClampNeg (nI c0))) ((mo15 e (nI p)).2.2.2.2.2.2.2.2.2.2.2.2.2.2.2.1 + 1)) ((mo15 e (nI p)).2.2.2.2.2.2.2.2.2.2.2.2.2.2.2.2 + 1) = mo15 (mo16 (mo13 e (upd e.2.2.2.2.2.2.2.2.2.2.2.2.2.1 (3 * k) (nI c0))) (nI (k + 1))) (nI (p + 1)) := by
    rw [z_13, z_15, z_16, z_1315, z_1515, z_1615, he, q_3, pk_mul, nI_1, nI_1, nI_clamp (by omega)]
  have ek : (3 : Int32) * nI k = nI (3 * k) := by rw [q_3, pk_mul]
  obtain ⟨R1, R2⟩ := rc_eq (mo15 e (nI p)) (nI c0) (nI k) _ a he hA
  rw [hf, if_neg n1, ek, h1] at R1
  rw [hf, if_neg n1, ek] at R2
  rw [R1, R2]
  exact ⟨⟨m, nI (k + 1), rfl, h2, fun w => ⟨rfl, h3 w⟩⟩, b, vp_in_nI (by omega) (by decide), h4, trivial⟩
theorem y_none {l : List Nat} {e : MoV} (hM : MX e.2.2.2.2.2.2.2.2.2.2.2.2.1 e.2.2.2.2.2.2.2.2.2.2.2.2.2.2.1 l) (hl : l.length ≤ 60) {p k : Nat} (hp : p < 2 ^ 30) (hz : f_X10_isFirst (if p < l.length then nI (l.getD p 0) else -1) = 0) {C : Bool × Nat × Nat × Nat × Nat} (hC : C = (false, 8, 0, 0, p)) :
    (∃ (m : Nat → Int32) (x : Int32), f_X10_readsCommand (mo15 e (nI p)) = ((if C.1 = true then 1 else 0), mo15 (mo16 (mo13 e m) x) (nI C.2.2.2.2)) ∧ (∀ i, i < 3 * k → m i = e.2.2.2.2.2.2.2.2.2.2.2.2.2.1 i) ∧ (C.1 = true → x = nI (k + 1) ∧ prow m k C)) ∧ ok_X10_readsCommand (mo15 e (nI p)) := by
  subst hC
  obtain ⟨a, b⟩ := y_sign hM hl hp
  unfold f_X10_readsCommand ok_X10_readsCommand
  rw [a, if_pos hz, if_pos hz]
  exact ⟨⟨e.2.2.2.2.2.2.2.2.2.2.2.2.2.1, e.2.2.2.2.2.2.2.2.2.2.2.2.2.2.2.2, rfl, fun _ _ => rfl, fun w => absurd w Bool.false_ne_true⟩, b, trivial⟩
theorem y_c103 {l : List Nat} {e : MoV} (hM : MX e.2.2.2.2.2.2.2.2.2.2.2.2.1 e.2.2.2.2.2.2.2.2.2.2.2.2.2.2.1 l) (hl : l.length ≤ 60) (hch : ∀ c ∈ l, c < 128) {p k : Nat} (hp : p < 2 ^ 26) (he : e.2.2.2.2.2.2.2.2.2.2.2.2.2.2.2.2 = nI k) (hpl : p < l.length) (hk : k ≤ 29) (h103 : l.getD p 0 = 103) :
    (∃ (m : Nat → Int32) (x : Int32), f_X10_readsCommand (mo15 e (nI p)) = ((if (pcm (fun i => l.getD i 0) p).1 = true then 1 else 0), mo15 (mo16 (mo13 e m) x) (nI (pcm (fun i => l.getD i 0) p).2.2.2.2)) ∧ (∀ i, i < 3 * k → m i = e.2.2.2.2.2.2.2.2.2.2.2.2.2.1 i) ∧ ((pcm (fun i => l.getD i 0) p).1 = true → x = nI (k + 1) ∧ prow m k (pcm (fun i => l.getD i 0) p))) ∧ ok_X10_readsCommand (mo15 e (nI p)) := by
  have ev : pvb (fun i => l.getD i 0) p = pwv (fun i => l.getD i 0) 0 (strL.getD 8 []) (p + 1) := by
    unfold pvb
    rw [if_pos h103]
    rfl
  obtain ⟨⟨m, h1, h2, h3⟩, h4⟩ := y_wa (e := mo16 (mo13 e (upd e.2.2.2.2.2.2.2.2.2.2.2.2.2.1 (3 * k) (nI 103))) (nI (k + 1))) (hM_b hM _ _) hl hch (j := 3 * k) (p := p + 1) (tj := 8) (k := 0) (two := True) (by omega) (by decide) (fun d => f_X10_isPair d (nI (3 * k))) (fun d => ok_X10_isPair d (nI (3 * k))) (fun q hq => by rw [par_P (by decide)]; exact y_pair (e := mo16 (mo13 e (upd e.2.2.2.2.2.2.2.2.2.2.2.2.2.1 (3 * k) (nI 103))) (nI (k + 1))) (hM_b hM _ _) hl hch (by omega) hq)
  rw [z_1316] at h1
  obtain ⟨r1, r2⟩ := rest_103 (mo15 (mo16 (mo13 e (upd e.2.2.2.2.2.2.2.2.2.2.2.2.2.1 (3 * k) (nI 103))) (nI (k + 1))) (nI (p + 1))) (nI (3 * k))
  refine y_fin hM hl hp he hpl hk h103 (by decide) _ ⟨⟨m, r1.trans ?_, fun i hi => ?_, fun hw => ?_⟩, ?_⟩
  · unfold pcm; rw [ev]; exact h1
  · exact ((h2 i (by omega)).trans (congrFun (z_13b _ _ _) i)).trans (upd_ne _ _ (by omega))
  · unfold pcm at hw ⊢
    rw [ev] at hw ⊢
    obtain ⟨v1, v2, v3⟩ := h3 hw
    refine ⟨?_, v2, fun h5 => v3 trivial⟩
    rw [v1]; exact ((h2 (3 * k) (by omega)).trans (congrFun (z_13b _ _ _) _)).trans (upd_eq _ _ _)
  · rw [show (nI 103 : Int32) = 103 from rfl, r2]; exact h4
