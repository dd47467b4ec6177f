/-! ===== one command, as the reference reads it ===== -/
theorem par_P {g : Nat → Nat} {k p : Nat} (h : k ≤ 2) : par g k p = parP g p := if_pos h
theorem par_D {g : Nat → Nat} {k p : Nat} (h : ¬ k ≤ 2) (h2 : k ≤ 5) : par g k p = parD g p := (if_neg h).trans (if_pos h2)
theorem par_N {g : Nat → Nat} {k p : Nat} (h : ¬ k ≤ 2) (h2 : ¬ k ≤ 5) : par g k p = parN g p := (if_neg h).trans (if_neg h2)
theorem z_13 (e : MoV) (x : Int32) : (mo15 e x).2.2.2.2.2.2.2.2.2.2.2.2.2.1 = e.2.2.2.2.2.2.2.2.2.2.2.2.2.1 := rfl
theorem z_15 (e : MoV) (x : Int32) : (mo15 e x).2.2.2.2.2.2.2.2.2.2.2.2.2.2.2.1 = x := rfl
theorem z_16 (e : MoV) (x : Int32) : (mo15 e x).2.2.2.2.2.2.2.2.2.2.2.2.2.2.2.2 = e.2.2.2.2.2.2.2.2.2.2.2.2.2.2.2.2 := rfl
theorem z_1315 (e : MoV) (x : Int32) (u : Nat → Int32) : mo13 (mo15 e x) u = mo15 (mo13 e u) x := rfl
theorem z_1515 (e : MoV) (x y : Int32) : mo15 (mo15 e x) y = mo15 e y := rfl
theorem z_1615 (e : MoV) (x y : Int32) : mo16 (mo15 e x) y = mo15 (mo16 e y) x := by
  obtain ⟨a0, a1, a2, a3, a4, a5, a6, a7, a8, a9, a10, a11, a12, a13, a14, a15, a16⟩ := e
  have h1 : mo16 (mo15 (a0, a1, a2, a3, a4, a5, a6, a7, a8, a9, a10, a11, a12, a13, a14, a15, a16) x) y = (a0, a1, a2, a3, a4, a5, a6, a7, a8, a9, a10, a11, a12, a13, a14, x, y) := rfl
  have h2 : mo15 (mo16 (a0, a1, a2, a3, a4, a5, a6, a7, a8, a9, a10, a11, a12, a13, a14, a15, a16) y) x = (a0, a1, a2, a3, a4, a5, a6, a7, a8, a9, a10, a11, a12, a13, a14, x, y) := rfl
  exact h1.trans h2.symm
theorem z_13b (e : MoV) (U : Nat → Int32) (K : Int32) : (mo16 (mo13 e U) K).2.2.2.2.2.2.2.2.2.2.2.2.2.1 = U := rfl
theorem z_1316 (e : MoV) (U V : Nat → Int32) (K : Int32) : mo13 (mo16 (mo13 e U) K) V = mo16 (mo13 e V) K := by
  obtain ⟨a0, a1, a2, a3, a4, a5, a6, a7, a8, a9, a10, a11, a12, a13, a14, a15, a16⟩ := e
  have h1 : mo13 (mo16 (mo13 (a0, a1, a2, a3, a4, a5, a6, a7, a8, a9, a10, a11, a12, a13, a14, a15, a16) U) K) V = (a0, a1, a2, a3, a4, a5, a6, a7, a8, a9, a10, a11, a12, V, a14, a15, K) := rfl
  have h2 : mo16 (mo13 (a0, a1, a2, a3, a4, a5, a6, a7, a8, a9, a10, a11, a12, a13, a14, a15, a16) V) K = (a0, a1, a2, a3, a4, a5, a6, a7, a8, a9, a10, a11, a12, V, a14, a15, K) := rfl
  exact h1.trans h2.symm
theorem z_12b (e : MoV) (U : Nat → Int32) (K : Int32) : (mo16 (mo13 e U) K).2.2.2.2.2.2.2.2.2.2.2.2.1 = e.2.2.2.2.2.2.2.2.2.2.2.2.1 := by
  obtain ⟨a0, a1, a2, a3, a4, a5, a6, a7, a8, a9, a10, a11, a12, a13, a14, a15, a16⟩ := e
  exact (rfl : _ = a12)
theorem z_14b (e : MoV) (U : Nat → Int32) (K : Int32) : (mo16 (mo13 e U) K).2.2.2.2.2.2.2.2.2.2.2.2.2.2.1 = e.2.2.2.2.2.2.2.2.2.2.2.2.2.2.1 := by
  obtain ⟨a0, a1, a2, a3, a4, a5, a6, a7, a8, a9, a10, a11, a12, a13, a14, a15, a16⟩ := e
  exact (rfl : _ = a14)
theorem hM_b {l : List Nat} {e : MoV} (hM : MX e.2.2.2.2.2.2.2.2.2.2.2.2.1 e.2.2.2.2.2.2.2.2.2.2.2.2.2.2.1 l) (U : Nat → Int32) (K : Int32) : MX (mo16 (mo13 e U) K).2.2.2.2.2.2.2.2.2.2.2.2.1 (mo16 (mo13 e U) K).2.2.2.2.2.2.2.2.2.2.2.2.2.2.1 l := by
  rw [z_12b, z_14b]; exact hM
theorem rT_0 (d X Y : MoV) (i : Int32) (s : f_X10_isSign d 97 = (0, X)) (hY : mo13 X (upd X.2.2.2.2.2.2.2.2.2.2.2.2.2.1 i.toNatClampNeg 114) = Y) :
    f_X10_readsT d i = (let u : Int32 × MoV := f_X10_isWord Y 10; (if u.1 = 0 then ((0 : Int32), u.2) else (let v : Int32 × MoV := f_X10_isPair u.2 i; (if v.1 = 0 then ((0 : Int32), v.2) else (1, v.2))))) ∧
    (ok_X10_isSign d 97 → vp_in i 93 → (ok_X10_isWord Y 10 ∧ (let u : Int32 × MoV := f_X10_isWord Y 10; (if u.1 = 0 then True else ok_X10_isPair u.2 i ∧ True))) → ok_X10_readsT d i) := by
  subst hY
  unfold f_X10_readsT ok_X10_readsT
  rw [s]
  exact ⟨if_pos rfl, fun a b c => ⟨a, (if_pos rfl).mpr ⟨b, c⟩⟩⟩
theorem rT_1 (d X : MoV) (i : Int32) (s : f_X10_isSign d 97 = (1, X)) :
    f_X10_readsT d i = (let u : Int32 × MoV := f_X10_isWord X 9; (if u.1 = 0 then ((0 : Int32), u.2) else (let v : Int32 × MoV := f_X10_isPair u.2 i; (if v.1 = 0 then ((0 : Int32), v.2) else (1, v.2))))) ∧
    (ok_X10_isSign d 97 → (ok_X10_isWord X 9 ∧ (let u : Int32 × MoV := f_X10_isWord X 9; (if u.1 = 0 then True else ok_X10_isPair u.2 i ∧ True))) → ok_X10_readsT d i) := by
  unfold f_X10_readsT ok_X10_readsT
  rw [s]
  exact ⟨if_neg (show ¬ (1 : Int32) = 0 by decide), fun a c => ⟨a, (if_neg (show ¬ (1 : Int32) = 0 by decide)).mpr c⟩⟩
theorem rc_eq (d : MoV) (s k : Int32) (A : MoV) (hs : f_X10_sign d = s) (hk : d.2.2.2.2.2.2.2.2.2.2.2.2.2.2.2.2 = k) (hA : mo16 (mo15 (mo13 d (upd d.2.2.2.2.2.2.2.2.2.2.2.2.2.1 (3 * d.2.2.2.2.2.2.2.2.2.2.2.2.2.2.2.2).toNatClampNeg s)) (d.2.2.2.2.2.2.2.2.2.2.2.2.2.2.2.1 + 1)) (d.2.2.2.2.2.2.2.2.2.2.2.2.2.2.2.2 + 1) = A) :
    f_X10_readsCommand d = (if f_X10_isFirst s = 0 then ((0 : Int32), d) else ((f_X10_readsRest A s (3 * k)).1, (f_X10_readsRest A s (3 * k)).2)) ∧ ok_X10_readsCommand d = (ok_X10_sign d ∧ (if f_X10_isFirst s = 0 then True else (vp_in (3 * k) 93 ∧ (ok_X10_readsRest A s (3 * k) ∧ True)))) := by
  subst hs; subst hk; subst hA
  exact ⟨rfl, rfl⟩
theorem y_fin {l : List Nat} {e : MoV} (hM : MX e.2.2.2.2.2.2.2.2.2.2.2.2.1 e.2.2.2.2.2.2.2.2.2.2.2.2.2.2.1 l) (hl : l.length ≤ 60) {p k c0 : Nat} (hp : p < 2 ^ 26) (he : e.2.2.2.2.2.2.2.2.2.2.2.2.2.2.2.2 = nI k) (hpl : p < l.length) (hk : k ≤ 29) (hc : l.getD p 0 = c0) (hf : f_X10_isFirst (nI c0) = 1) (C : Bool × Nat × Nat × Nat × Nat)
    (hR : (∃ m : Nat → Int32, f_X10_readsRest (mo15 (mo16 (mo13 e (upd e.2.2.2.2.2.2.2.2.2.2.2.2.2.1 (3 * k) (nI c0))) (nI (k + 1))) (nI (p + 1))) (nI c0) (nI (3 * k)) = ((if C.1 = true then 1 else 0), mo15 (mo16 (mo13 e m) (nI (k + 1))) (nI C.2.2.2.2)) ∧ (∀ i, i < 3 * k → m i = e.2.2.2.2.2.2.2.2.2.2.2.2.2.1 i) ∧ (C.1 = true → prow m k C)) ∧ ok_X10_readsRest (mo15 (mo16 (mo13 e (upd e.2.2.2.2.2.2.2.2.2.2.2.2.2.1 (3 * k) (nI c0))) (nI (k + 1))) (nI (p + 1))) (nI c0) (nI (3 * k))) :
    (∃ (m : Nat → Int32) (x : Int32), f_X10_readsCommand (mo15 e (nI p)) = ((if C.1 = true then 1 else 0), mo15 (mo16 (mo13 e m) x) (nI C.2.2.2.2)) ∧ (∀ i, i < 3 * k → m i = e.2.2.2.2.2.2.2.2.2.2.2.2.2.1 i) ∧ (C.1 = true → x = nI (k + 1) ∧ prow m k C)) ∧ ok_X10_readsCommand (mo15 e (nI p)) := by
  obtain ⟨a, b⟩ := y_sign hM hl (p := p) (by omega)
  rw [if_pos hpl, hc] at a
  obtain ⟨⟨m, h1, h2, h3⟩, h4⟩ := hR
  have n1 : ¬ (1 : Int32) = 0 := by decide
  have hA : mo16 (mo15 (mo13 (mo15 e (nI p)) (upd (mo15 e (nI p)).2.2.2.2.2.2.2.2.2.2.2.2.2.1 (3 * (mo15 e (nI p)).2.2.2.2.2.2.2.2.2.2.2.2.2.2.2.2).toNatClampNeg (nI c0))) ((mo15 e (nI p)).2.2.2.2.2.2.2.2.2.2.2.2.2.2.2.1 + 1)) ((mo15 e (nI p)).2.2.2.2.2.2.2.2.2.2.2.2.2.2.2.2 + 1) = mo15 (mo16 (mo13 e (upd e.2.2.2.2.2.2.2.2.2.2.2.2.2.1 (3 * k) (nI c0))) (nI (k + 1))) (nI (p + 1)) := by
    rw [z_13, z_15, z_16, z_1315, z_1515, z_1615, he, q_3, pk_mul, nI_1, nI_1, nI_clamp (by omega)]
  have ek : (3 : Int32) * nI k = nI (3 * k) := by rw [q_3, pk_mul]
  obtain ⟨R1, R2⟩ := rc_eq (mo15 e (nI p)) (nI c0) (nI k) _ a he hA
  rw [hf, if_neg n1, ek, h1] at R1
  rw [hf, if_neg n1, ek] at R2
  rw [R1, R2]
  exact ⟨⟨m, nI (k + 1), rfl, h2, fun w => ⟨rfl, h3 w⟩⟩, b, vp_in_nI (by omega) (by decide), h4, trivial⟩
theorem y_none {l : List Nat} {e : MoV} (hM : MX e.2.2.2.2.2.2.2.2.2.2.2.2.1 e.2.2.2.2.2.2.2.2.2.2.2.2.2.2.1 l) (hl : l.length ≤ 60) {p k : Nat} (hp : p < 2 ^ 30) (hz : f_X10_isFirst (if p < l.length then nI (l.getD p 0) else -1) = 0) {C : Bool × Nat × Nat × Nat × Nat} (hC : C = (false, 8, 0, 0, p)) :
    (∃ (m : Nat → Int32) (x : Int32), f_X10_readsCommand (mo15 e (nI p)) = ((if C.1 = true then 1 else 0), mo15 (mo16 (mo13 e m) x) (nI C.2.2.2.2)) ∧ (∀ i, i < 3 * k → m i = e.2.2.2.2.2.2.2.2.2.2.2.2.2.1 i) ∧ (C.1 = true → x = nI (k + 1) ∧ prow m k C)) ∧ ok_X10_readsCommand (mo15 e (nI p)) := by
  subst hC
  obtain ⟨a, b⟩ := y_sign hM hl hp
  unfold f_X10_readsCommand ok_X10_readsCommand
  rw [a, if_pos hz, if_pos hz]
  exact ⟨⟨e.2.2.2.2.2.2.2.2.2.2.2.2.2.1, e.2.2.2.2.2.2.2.2.2.2.2.2.2.2.2.2, rfl, fun _ _ => rfl, fun w => absurd w Bool.false_ne_true⟩, b, trivial⟩
theorem q_103 : (103 : Int32) = nI 103 := rfl
theorem q_116 : (116 : Int32) = nI 116 := rfl
theorem q_111 : (111 : Int32) = nI 111 := rfl
theorem q_115 : (115 : Int32) = nI 115 := rfl
theorem q_108 : (108 : Int32) = nI 108 := rfl
theorem q_109 : (109 : Int32) = nI 109 := rfl
theorem q_119 : (119 : Int32) = nI 119 := rfl
theorem q_97 : (97 : Int32) = nI 97 := rfl
theorem q_114 : (114 : Int32) = nI 114 := rfl
theorem y_waP {l : List Nat} {e : MoV} (hM : MX e.2.2.2.2.2.2.2.2.2.2.2.2.1 e.2.2.2.2.2.2.2.2.2.2.2.2.2.2.1 l) (hl : l.length ≤ 60) (hch : ∀ c ∈ l, c < 128) {j p tj k : Nat} (hp : p < 2 ^ 27) (ht : tj < 16) (hj : j + 2 < 93) (hk : k ≤ 2) :
    (∃ m : Nat → Int32, (let u : Int32 × MoV := f_X10_isWord (mo15 e (nI p)) tj; (if u.1 = (0 : Int32) then ((0 : Int32), u.2) else (let v : Int32 × MoV := f_X10_isPair u.2 (nI j); (if v.1 = (0 : Int32) then ((0 : Int32), v.2) else ((1 : Int32), v.2))))) = ((if (pwa (fun i => l.getD i 0) (pwv (fun i => l.getD i 0) k (strL.getD tj []) p)).1 = true then 1 else 0), mo15 (mo13 e m) (nI (pwa (fun i => l.getD i 0) (pwv (fun i => l.getD i 0) k (strL.getD tj []) p)).2.2.2.2)) ∧ (∀ i, i < j + 1 → m i = e.2.2.2.2.2.2.2.2.2.2.2.2.2.1 i) ∧ ((pwa (fun i => l.getD i 0) (pwv (fun i => l.getD i 0) k (strL.getD tj []) p)).1 = true → (pwa (fun i => l.getD i 0) (pwv (fun i => l.getD i 0) k (strL.getD tj []) p)).2.1 = k ∧ m (j + 1) = nI (pwa (fun i => l.getD i 0) (pwv (fun i => l.getD i 0) k (strL.getD tj []) p)).2.2.1 ∧ (True → m (j + 2) = nI (pwa (fun i => l.getD i 0) (pwv (fun i => l.getD i 0) k (strL.getD tj []) p)).2.2.2.1))) ∧
    (ok_X10_isWord (mo15 e (nI p)) tj ∧ (let u : Int32 × MoV := f_X10_isWord (mo15 e (nI p)) tj; (if u.1 = (0 : Int32) then True else (ok_X10_isPair u.2 (nI j) ∧ True)))) :=
  y_wa hM hl hch hp ht (fun d => f_X10_isPair d (nI j)) (fun d => ok_X10_isPair d (nI j)) (fun q hq => by rw [par_P hk]; exact y_pair hM hl hch hj hq)
theorem y_waD {l : List Nat} {e : MoV} (hM : MX e.2.2.2.2.2.2.2.2.2.2.2.2.1 e.2.2.2.2.2.2.2.2.2.2.2.2.2.2.1 l) (hl : l.length ≤ 60) (hch : ∀ c ∈ l, c < 128) {j p tj k : Nat} (hp : p < 2 ^ 27) (ht : tj < 16) (hj : j + 2 < 93) (hk : ¬ k ≤ 2 ∧ k ≤ 5) :
    (∃ m : Nat → Int32, (let u : Int32 × MoV := f_X10_isWord (mo15 e (nI p)) tj; (if u.1 = (0 : Int32) then ((0 : Int32), u.2) else (let v : Int32 × MoV := f_X10_isDoorDay u.2 (nI j); (if v.1 = (0 : Int32) then ((0 : Int32), v.2) else ((1 : Int32), v.2))))) = ((if (pwa (fun i => l.getD i 0) (pwv (fun i => l.getD i 0) k (strL.getD tj []) p)).1 = true then 1 else 0), mo15 (mo13 e m) (nI (pwa (fun i => l.getD i 0) (pwv (fun i => l.getD i 0) k (strL.getD tj []) p)).2.2.2.2)) ∧ (∀ i, i < j + 1 → m i = e.2.2.2.2.2.2.2.2.2.2.2.2.2.1 i) ∧ ((pwa (fun i => l.getD i 0) (pwv (fun i => l.getD i 0) k (strL.getD tj []) p)).1 = true → (pwa (fun i => l.getD i 0) (pwv (fun i => l.getD i 0) k (strL.getD tj []) p)).2.1 = k ∧ m (j + 1) = nI (pwa (fun i => l.getD i 0) (pwv (fun i => l.getD i 0) k (strL.getD tj []) p)).2.2.1 ∧ (True → m (j + 2) = nI (pwa (fun i => l.getD i 0) (pwv (fun i => l.getD i 0) k (strL.getD tj []) p)).2.2.2.1))) ∧
    (ok_X10_isWord (mo15 e (nI p)) tj ∧ (let u : Int32 × MoV := f_X10_isWord (mo15 e (nI p)) tj; (if u.1 = (0 : Int32) then True else (ok_X10_isDoorDay u.2 (nI j) ∧ True)))) :=
  y_wa hM hl hch hp ht (fun d => f_X10_isDoorDay d (nI j)) (fun d => ok_X10_isDoorDay d (nI j)) (fun q hq => by rw [par_D hk.1 hk.2]; exact y_dd hM hl hch hj hq)
theorem y_waN {l : List Nat} {e : MoV} (hM : MX e.2.2.2.2.2.2.2.2.2.2.2.2.1 e.2.2.2.2.2.2.2.2.2.2.2.2.2.2.1 l) (hl : l.length ≤ 60) (hch : ∀ c ∈ l, c < 128) {j p tj k : Nat} (hp : p < 2 ^ 27) (ht : tj < 16) (hj : j + 2 < 93) (hk : ¬ k ≤ 2 ∧ ¬ k ≤ 5) :
    (∃ m : Nat → Int32, (let u : Int32 × MoV := f_X10_isWord (mo15 e (nI p)) tj; (if u.1 = (0 : Int32) then ((0 : Int32), u.2) else (let v : Int32 × MoV := f_X10_isNumber u.2 3 (nI j + 1); (if v.1 = (0 : Int32) then ((0 : Int32), v.2) else ((1 : Int32), v.2))))) = ((if (pwa (fun i => l.getD i 0) (pwv (fun i => l.getD i 0) k (strL.getD tj []) p)).1 = true then 1 else 0), mo15 (mo13 e m) (nI (pwa (fun i => l.getD i 0) (pwv (fun i => l.getD i 0) k (strL.getD tj []) p)).2.2.2.2)) ∧ (∀ i, i < j + 1 → m i = e.2.2.2.2.2.2.2.2.2.2.2.2.2.1 i) ∧ ((pwa (fun i => l.getD i 0) (pwv (fun i => l.getD i 0) k (strL.getD tj []) p)).1 = true → (pwa (fun i => l.getD i 0) (pwv (fun i => l.getD i 0) k (strL.getD tj []) p)).2.1 = k ∧ m (j + 1) = nI (pwa (fun i => l.getD i 0) (pwv (fun i => l.getD i 0) k (strL.getD tj []) p)).2.2.1 ∧ (False → m (j + 2) = nI (pwa (fun i => l.getD i 0) (pwv (fun i => l.getD i 0) k (strL.getD tj []) p)).2.2.2.1))) ∧
    (ok_X10_isWord (mo15 e (nI p)) tj ∧ (let u : Int32 × MoV := f_X10_isWord (mo15 e (nI p)) tj; (if u.1 = (0 : Int32) then True else (ok_X10_isNumber u.2 3 (nI j + 1) ∧ True)))) :=
  y_wa hM hl hch hp ht (fun d => f_X10_isNumber d 3 (nI j + 1)) (fun d => ok_X10_isNumber d 3 (nI j + 1)) (fun q hq => by rw [par_N hk.1 hk.2]; exact y_one hM hl hch hj hq)
theorem y_c103 {l : List Nat} {e : MoV} (hM : MX e.2.2.2.2.2.2.2.2.2.2.2.2.1 e.2.2.2.2.2.2.2.2.2.2.2.2.2.2.1 l) (hl : l.length ≤ 60) (hch : ∀ c ∈ l, c < 128) {p k : Nat} (hp : p < 2 ^ 26) (he : e.2.2.2.2.2.2.2.2.2.2.2.2.2.2.2.2 = nI k) (hpl : p < l.length) (hk : k ≤ 29) (h103 : l.getD p 0 = 103) :
    (∃ (m : Nat → Int32) (x : Int32), f_X10_readsCommand (mo15 e (nI p)) = ((if (pcm (fun i => l.getD i 0) p).1 = true then 1 else 0), mo15 (mo16 (mo13 e m) x) (nI (pcm (fun i => l.getD i 0) p).2.2.2.2)) ∧ (∀ i, i < 3 * k → m i = e.2.2.2.2.2.2.2.2.2.2.2.2.2.1 i) ∧ ((pcm (fun i => l.getD i 0) p).1 = true → x = nI (k + 1) ∧ prow m k (pcm (fun i => l.getD i 0) p))) ∧ ok_X10_readsCommand (mo15 e (nI p)) := by
  have ev : pcm (fun i => l.getD i 0) p = pwa (fun i => l.getD i 0) (pwv (fun i => l.getD i 0) 0 (strL.getD 8 []) (p + 1)) := by
    unfold pcm pvb
    rw [if_pos h103]
    rfl
  rw [ev]
  obtain ⟨⟨m, h1, h2, h3⟩, h4⟩ := y_waP (e := mo16 (mo13 e (upd e.2.2.2.2.2.2.2.2.2.2.2.2.2.1 (3 * k) (nI 103))) (nI (k + 1))) (hM_b hM _ _) hl hch (j := 3 * k) (p := p + 1) (tj := 8) (k := 0) (by omega) (by decide) (by omega) (by decide)
  generalize pwa (fun i => l.getD i 0) (pwv (fun i => l.getD i 0) 0 (strL.getD 8 []) (p + 1)) = C at h1 h3 ⊢
  rw [z_1316 e (upd e.2.2.2.2.2.2.2.2.2.2.2.2.2.1 (3 * k) (nI 103)) m (nI (k + 1))] at h1
  obtain ⟨r1, r2⟩ := rest_103 (mo15 (mo16 (mo13 e (upd e.2.2.2.2.2.2.2.2.2.2.2.2.2.1 (3 * k) (nI 103))) (nI (k + 1))) (nI (p + 1))) (nI (3 * k))
  rw [q_103] at r1 r2
  refine y_fin hM hl hp he hpl hk h103 (by decide) C ⟨⟨m, r1.trans h1, fun i hi => ?_, fun hw => ?_⟩, r2.mpr h4⟩
  · exact ((h2 i (by omega)).trans (congrFun (z_13b _ _ _) i)).trans (upd_ne _ _ (by omega))
  · obtain ⟨v1, v2, v3⟩ := h3 hw
    refine ⟨?_, v2, fun h5 => v3 trivial⟩
    rw [v1]; exact ((h2 (3 * k) (by omega)).trans (congrFun (z_13b _ _ _) _)).trans (upd_eq _ _ _)
theorem y_c116 {l : List Nat} {e : MoV} (hM : MX e.2.2.2.2.2.2.2.2.2.2.2.2.1 e.2.2.2.2.2.2.2.2.2.2.2.2.2.2.1 l) (hl : l.length ≤ 60) (hch : ∀ c ∈ l, c < 128) {p k : Nat} (hp : p < 2 ^ 26) (he : e.2.2.2.2.2.2.2.2.2.2.2.2.2.2.2.2 = nI k) (hpl : p < l.length) (hk : k ≤ 29) (h103 : ¬ l.getD p 0 = 103) (h116 : l.getD p 0 = 116) :
    (∃ (m : Nat → Int32) (x : Int32), f_X10_readsCommand (mo15 e (nI p)) = ((if (pcm (fun i => l.getD i 0) p).1 = true then 1 else 0), mo15 (mo16 (mo13 e m) x) (nI (pcm (fun i => l.getD i 0) p).2.2.2.2)) ∧ (∀ i, i < 3 * k → m i = e.2.2.2.2.2.2.2.2.2.2.2.2.2.1 i) ∧ ((pcm (fun i => l.getD i 0) p).1 = true → x = nI (k + 1) ∧ prow m k (pcm (fun i => l.getD i 0) p))) ∧ ok_X10_readsCommand (mo15 e (nI p)) := by
  have n1 : ¬ (1 : Int32) = 0 := by decide
  obtain ⟨r1, r2⟩ := rest_116 (mo15 (mo16 (mo13 e (upd e.2.2.2.2.2.2.2.2.2.2.2.2.2.1 (3 * k) (nI 116))) (nI (k + 1))) (nI (p + 1))) (nI (3 * k))
  rw [q_116] at r1 r2
  obtain ⟨s1, s2⟩ := y_is (e := mo16 (mo13 e (upd e.2.2.2.2.2.2.2.2.2.2.2.2.2.1 (3 * k) (nI 116))) (nI (k + 1))) (hM_b hM _ _) hl hch (p := p + 1) (c := 97) (by omega) (by decide) (by decide)
  rw [← q_97] at s1 s2
  by_cases ha : l.getD (p + 1) 0 = 97
  · have ev : pcm (fun i => l.getD i 0) p = pwa (fun i => l.getD i 0) (pwv (fun i => l.getD i 0) 1 (strL.getD 9 []) (p + 2)) := by
      unfold pcm pvb
      rw [if_neg h103, if_pos h116, if_pos ha]
      rfl
    rw [ev]
    obtain ⟨⟨m, h1, h2, h3⟩, h4⟩ := y_waP (e := mo16 (mo13 e (upd e.2.2.2.2.2.2.2.2.2.2.2.2.2.1 (3 * k) (nI 116))) (nI (k + 1))) (hM_b hM _ _) hl hch (j := 3 * k) (p := p + 2) (tj := 9) (k := 1) (by omega) (by decide) (by omega) (by decide)
    generalize pwa (fun i => l.getD i 0) (pwv (fun i => l.getD i 0) 1 (strL.getD 9 []) (p + 2)) = C at h1 h3 ⊢
    rw [z_1316 e (upd e.2.2.2.2.2.2.2.2.2.2.2.2.2.1 (3 * k) (nI 116)) m (nI (k + 1))] at h1
    rw [if_pos ha, show p + 1 + 1 = p + 2 from rfl] at s1
    obtain ⟨t1, t2⟩ := rT_1 _ _ (nI (3 * k)) s1
    have t2 := t2 s2 h4
    refine y_fin hM hl hp he hpl hk h116 (by decide) C ⟨⟨m, r1.trans (t1.trans h1), fun i hi => ?_, fun hw => ?_⟩, r2.mpr ⟨t2, trivial⟩⟩
    · exact ((h2 i (by omega)).trans (congrFun (z_13b _ _ _) i)).trans (upd_ne _ _ (by omega))
    · obtain ⟨v1, v2, v3⟩ := h3 hw
      refine ⟨?_, v2, fun h5 => v3 trivial⟩
      rw [v1]; exact ((h2 (3 * k) (by omega)).trans (congrFun (z_13b _ _ _) _)).trans (upd_eq _ _ _)
  · have ev : pcm (fun i => l.getD i 0) p = pwa (fun i => l.getD i 0) (pwv (fun i => l.getD i 0) 2 (strL.getD 10 []) (p + 1)) := by
      unfold pcm pvb
      rw [if_neg h103, if_pos h116, if_neg ha]
      rfl
    rw [ev]
    obtain ⟨⟨m, h1, h2, h3⟩, h4⟩ := y_waP (e := mo16 (mo13 e (upd (upd e.2.2.2.2.2.2.2.2.2.2.2.2.2.1 (3 * k) (nI 116)) (3 * k) (nI 114))) (nI (k + 1))) (hM_b hM _ _) hl hch (j := 3 * k) (p := p + 1) (tj := 10) (k := 2) (by omega) (by decide) (by omega) (by decide)
    generalize pwa (fun i => l.getD i 0) (pwv (fun i => l.getD i 0) 2 (strL.getD 10 []) (p + 1)) = C at h1 h3 ⊢
    rw [z_1316 e (upd (upd e.2.2.2.2.2.2.2.2.2.2.2.2.2.1 (3 * k) (nI 116)) (3 * k) (nI 114)) m (nI (k + 1))] at h1
    rw [if_neg ha] at s1
    have hcl : (nI (3 * k)).toNatClampNeg = 3 * k := nI_clamp (by omega)
    have hY : mo13 (mo15 (mo16 (mo13 e (upd e.2.2.2.2.2.2.2.2.2.2.2.2.2.1 (3 * k) (nI 116))) (nI (k + 1))) (nI (p + 1))) (upd (mo15 (mo16 (mo13 e (upd e.2.2.2.2.2.2.2.2.2.2.2.2.2.1 (3 * k) (nI 116))) (nI (k + 1))) (nI (p + 1))).2.2.2.2.2.2.2.2.2.2.2.2.2.1 (nI (3 * k)).toNatClampNeg 114) = mo15 (mo16 (mo13 e (upd (upd e.2.2.2.2.2.2.2.2.2.2.2.2.2.1 (3 * k) (nI 116)) (3 * k) (nI 114))) (nI (k + 1))) (nI (p + 1)) := by
      rw [z_13, z_13b, z_1315, z_1316 e (upd e.2.2.2.2.2.2.2.2.2.2.2.2.2.1 (3 * k) (nI 116)), hcl, q_114]
    obtain ⟨t1, t2⟩ := rT_0 _ _ _ (nI (3 * k)) s1 hY
    have t2 := t2 s2 (vp_in_nI (by omega) (by decide)) h4
    refine y_fin hM hl hp he hpl hk h116 (by decide) C ⟨⟨m, r1.trans (t1.trans h1), fun i hi => ?_, fun hw => ?_⟩, r2.mpr ⟨t2, trivial⟩⟩
    · exact ((h2 i (by omega)).trans (congrFun (z_13b _ _ _) i)).trans ((upd_ne _ _ (by omega)).trans (upd_ne _ _ (by omega)))
    · obtain ⟨v1, v2, v3⟩ := h3 hw
      refine ⟨?_, v2, fun h5 => v3 trivial⟩
      rw [v1]; exact ((h2 (3 * k) (by omega)).trans (congrFun (z_13b _ _ _) _)).trans (upd_eq _ _ _)
theorem y_c111 {l : List Nat} {e : MoV} (hM : MX e.2.2.2.2.2.2.2.2.2.2.2.2.1 e.2.2.2.2.2.2.2.2.2.2.2.2.2.2.1 l) (hl : l.length ≤ 60) (hch : ∀ c ∈ l, c < 128) {p k : Nat} (hp : p < 2 ^ 26) (he : e.2.2.2.2.2.2.2.2.2.2.2.2.2.2.2.2 = nI k) (hpl : p < l.length) (hk : k ≤ 29) (h103 : ¬ l.getD p 0 = 103) (h116 : ¬ l.getD p 0 = 116) (h111 : l.getD p 0 = 111) :
    (∃ (m : Nat → Int32) (x : Int32), f_X10_readsCommand (mo15 e (nI p)) = ((if (pcm (fun i => l.getD i 0) p).1 = true then 1 else 0), mo15 (mo16 (mo13 e m) x) (nI (pcm (fun i => l.getD i 0) p).2.2.2.2)) ∧ (∀ i, i < 3 * k → m i = e.2.2.2.2.2.2.2.2.2.2.2.2.2.1 i) ∧ ((pcm (fun i => l.getD i 0) p).1 = true → x = nI (k + 1) ∧ prow m k (pcm (fun i => l.getD i 0) p))) ∧ ok_X10_readsCommand (mo15 e (nI p)) := by
  have ev : pcm (fun i => l.getD i 0) p = pwa (fun i => l.getD i 0) (pwv (fun i => l.getD i 0) 3 (strL.getD 11 []) (p + 1)) := by
    unfold pcm pvb
    rw [if_neg h103]
    rw [if_neg h116]
    rw [if_pos h111]
    rfl
  rw [ev]
  obtain ⟨⟨m, h1, h2, h3⟩, h4⟩ := y_waD (e := mo16 (mo13 e (upd e.2.2.2.2.2.2.2.2.2.2.2.2.2.1 (3 * k) (nI 111))) (nI (k + 1))) (hM_b hM _ _) hl hch (j := 3 * k) (p := p + 1) (tj := 11) (k := 3) (by omega) (by decide) (by omega) ⟨by decide, by decide⟩
  generalize pwa (fun i => l.getD i 0) (pwv (fun i => l.getD i 0) 3 (strL.getD 11 []) (p + 1)) = C at h1 h3 ⊢
  rw [z_1316 e (upd e.2.2.2.2.2.2.2.2.2.2.2.2.2.1 (3 * k) (nI 111)) m (nI (k + 1))] at h1
  obtain ⟨r1, r2⟩ := rest_111 (mo15 (mo16 (mo13 e (upd e.2.2.2.2.2.2.2.2.2.2.2.2.2.1 (3 * k) (nI 111))) (nI (k + 1))) (nI (p + 1))) (nI (3 * k))
  rw [q_111] at r1 r2
  refine y_fin hM hl hp he hpl hk h111 (by decide) C ⟨⟨m, r1.trans h1, fun i hi => ?_, fun hw => ?_⟩, r2.mpr h4⟩
  · exact ((h2 i (by omega)).trans (congrFun (z_13b _ _ _) i)).trans (upd_ne _ _ (by omega))
  · obtain ⟨v1, v2, v3⟩ := h3 hw
    refine ⟨?_, v2, fun h5 => v3 trivial⟩
    rw [v1]; exact ((h2 (3 * k) (by omega)).trans (congrFun (z_13b _ _ _) _)).trans (upd_eq _ _ _)
theorem y_c115 {l : List Nat} {e : MoV} (hM : MX e.2.2.2.2.2.2.2.2.2.2.2.2.1 e.2.2.2.2.2.2.2.2.2.2.2.2.2.2.1 l) (hl : l.length ≤ 60) (hch : ∀ c ∈ l, c < 128) {p k : Nat} (hp : p < 2 ^ 26) (he : e.2.2.2.2.2.2.2.2.2.2.2.2.2.2.2.2 = nI k) (hpl : p < l.length) (hk : k ≤ 29) (h103 : ¬ l.getD p 0 = 103) (h116 : ¬ l.getD p 0 = 116) (h111 : ¬ l.getD p 0 = 111) (h115 : l.getD p 0 = 115) :
    (∃ (m : Nat → Int32) (x : Int32), f_X10_readsCommand (mo15 e (nI p)) = ((if (pcm (fun i => l.getD i 0) p).1 = true then 1 else 0), mo15 (mo16 (mo13 e m) x) (nI (pcm (fun i => l.getD i 0) p).2.2.2.2)) ∧ (∀ i, i < 3 * k → m i = e.2.2.2.2.2.2.2.2.2.2.2.2.2.1 i) ∧ ((pcm (fun i => l.getD i 0) p).1 = true → x = nI (k + 1) ∧ prow m k (pcm (fun i => l.getD i 0) p))) ∧ ok_X10_readsCommand (mo15 e (nI p)) := by
  have ev : pcm (fun i => l.getD i 0) p = pwa (fun i => l.getD i 0) (pwv (fun i => l.getD i 0) 4 (strL.getD 12 []) (p + 1)) := by
    unfold pcm pvb
    rw [if_neg h103]
    rw [if_neg h116]
    rw [if_neg h111]
    rw [if_pos h115]
    rfl
  rw [ev]
  obtain ⟨⟨m, h1, h2, h3⟩, h4⟩ := y_waD (e := mo16 (mo13 e (upd e.2.2.2.2.2.2.2.2.2.2.2.2.2.1 (3 * k) (nI 115))) (nI (k + 1))) (hM_b hM _ _) hl hch (j := 3 * k) (p := p + 1) (tj := 12) (k := 4) (by omega) (by decide) (by omega) ⟨by decide, by decide⟩
  generalize pwa (fun i => l.getD i 0) (pwv (fun i => l.getD i 0) 4 (strL.getD 12 []) (p + 1)) = C at h1 h3 ⊢
  rw [z_1316 e (upd e.2.2.2.2.2.2.2.2.2.2.2.2.2.1 (3 * k) (nI 115)) m (nI (k + 1))] at h1
  obtain ⟨r1, r2⟩ := rest_115 (mo15 (mo16 (mo13 e (upd e.2.2.2.2.2.2.2.2.2.2.2.2.2.1 (3 * k) (nI 115))) (nI (k + 1))) (nI (p + 1))) (nI (3 * k))
  rw [q_115] at r1 r2
  refine y_fin hM hl hp he hpl hk h115 (by decide) C ⟨⟨m, r1.trans h1, fun i hi => ?_, fun hw => ?_⟩, r2.mpr h4⟩
  · exact ((h2 i (by omega)).trans (congrFun (z_13b _ _ _) i)).trans (upd_ne _ _ (by omega))
  · obtain ⟨v1, v2, v3⟩ := h3 hw
    refine ⟨?_, v2, fun h5 => v3 trivial⟩
    rw [v1]; exact ((h2 (3 * k) (by omega)).trans (congrFun (z_13b _ _ _) _)).trans (upd_eq _ _ _)
theorem y_c108 {l : List Nat} {e : MoV} (hM : MX e.2.2.2.2.2.2.2.2.2.2.2.2.1 e.2.2.2.2.2.2.2.2.2.2.2.2.2.2.1 l) (hl : l.length ≤ 60) (hch : ∀ c ∈ l, c < 128) {p k : Nat} (hp : p < 2 ^ 26) (he : e.2.2.2.2.2.2.2.2.2.2.2.2.2.2.2.2 = nI k) (hpl : p < l.length) (hk : k ≤ 29) (h103 : ¬ l.getD p 0 = 103) (h116 : ¬ l.getD p 0 = 116) (h111 : ¬ l.getD p 0 = 111) (h115 : ¬ l.getD p 0 = 115) (h108 : l.getD p 0 = 108) :
    (∃ (m : Nat → Int32) (x : Int32), f_X10_readsCommand (mo15 e (nI p)) = ((if (pcm (fun i => l.getD i 0) p).1 = true then 1 else 0), mo15 (mo16 (mo13 e m) x) (nI (pcm (fun i => l.getD i 0) p).2.2.2.2)) ∧ (∀ i, i < 3 * k → m i = e.2.2.2.2.2.2.2.2.2.2.2.2.2.1 i) ∧ ((pcm (fun i => l.getD i 0) p).1 = true → x = nI (k + 1) ∧ prow m k (pcm (fun i => l.getD i 0) p))) ∧ ok_X10_readsCommand (mo15 e (nI p)) := by
  have ev : pcm (fun i => l.getD i 0) p = pwa (fun i => l.getD i 0) (pwv (fun i => l.getD i 0) 5 (strL.getD 13 []) (p + 1)) := by
    unfold pcm pvb
    rw [if_neg h103]
    rw [if_neg h116]
    rw [if_neg h111]
    rw [if_neg h115]
    rw [if_pos h108]
    rfl
  rw [ev]
  obtain ⟨⟨m, h1, h2, h3⟩, h4⟩ := y_waD (e := mo16 (mo13 e (upd e.2.2.2.2.2.2.2.2.2.2.2.2.2.1 (3 * k) (nI 108))) (nI (k + 1))) (hM_b hM _ _) hl hch (j := 3 * k) (p := p + 1) (tj := 13) (k := 5) (by omega) (by decide) (by omega) ⟨by decide, by decide⟩
  generalize pwa (fun i => l.getD i 0) (pwv (fun i => l.getD i 0) 5 (strL.getD 13 []) (p + 1)) = C at h1 h3 ⊢
  rw [z_1316 e (upd e.2.2.2.2.2.2.2.2.2.2.2.2.2.1 (3 * k) (nI 108)) m (nI (k + 1))] at h1
  obtain ⟨r1, r2⟩ := rest_108 (mo15 (mo16 (mo13 e (upd e.2.2.2.2.2.2.2.2.2.2.2.2.2.1 (3 * k) (nI 108))) (nI (k + 1))) (nI (p + 1))) (nI (3 * k))
  rw [q_108] at r1 r2
  refine y_fin hM hl hp he hpl hk h108 (by decide) C ⟨⟨m, r1.trans h1, fun i hi => ?_, fun hw => ?_⟩, r2.mpr h4⟩
  · exact ((h2 i (by omega)).trans (congrFun (z_13b _ _ _) i)).trans (upd_ne _ _ (by omega))
  · obtain ⟨v1, v2, v3⟩ := h3 hw
    refine ⟨?_, v2, fun h5 => v3 trivial⟩
    rw [v1]; exact ((h2 (3 * k) (by omega)).trans (congrFun (z_13b _ _ _) _)).trans (upd_eq _ _ _)
theorem y_c109 {l : List Nat} {e : MoV} (hM : MX e.2.2.2.2.2.2.2.2.2.2.2.2.1 e.2.2.2.2.2.2.2.2.2.2.2.2.2.2.1 l) (hl : l.length ≤ 60) (hch : ∀ c ∈ l, c < 128) {p k : Nat} (hp : p < 2 ^ 26) (he : e.2.2.2.2.2.2.2.2.2.2.2.2.2.2.2.2 = nI k) (hpl : p < l.length) (hk : k ≤ 29) (h103 : ¬ l.getD p 0 = 103) (h116 : ¬ l.getD p 0 = 116) (h111 : ¬ l.getD p 0 = 111) (h115 : ¬ l.getD p 0 = 115) (h108 : ¬ l.getD p 0 = 108) (h109 : l.getD p 0 = 109) :
    (∃ (m : Nat → Int32) (x : Int32), f_X10_readsCommand (mo15 e (nI p)) = ((if (pcm (fun i => l.getD i 0) p).1 = true then 1 else 0), mo15 (mo16 (mo13 e m) x) (nI (pcm (fun i => l.getD i 0) p).2.2.2.2)) ∧ (∀ i, i < 3 * k → m i = e.2.2.2.2.2.2.2.2.2.2.2.2.2.1 i) ∧ ((pcm (fun i => l.getD i 0) p).1 = true → x = nI (k + 1) ∧ prow m k (pcm (fun i => l.getD i 0) p))) ∧ ok_X10_readsCommand (mo15 e (nI p)) := by
  have ev : pcm (fun i => l.getD i 0) p = pwa (fun i => l.getD i 0) (pwv (fun i => l.getD i 0) 6 (strL.getD 14 []) (p + 1)) := by
    unfold pcm pvb
    rw [if_neg h103]
    rw [if_neg h116]
    rw [if_neg h111]
    rw [if_neg h115]
    rw [if_neg h108]
    rw [if_pos h109]
    rfl
  rw [ev]
  obtain ⟨⟨m, h1, h2, h3⟩, h4⟩ := y_waN (e := mo16 (mo13 e (upd e.2.2.2.2.2.2.2.2.2.2.2.2.2.1 (3 * k) (nI 109))) (nI (k + 1))) (hM_b hM _ _) hl hch (j := 3 * k) (p := p + 1) (tj := 14) (k := 6) (by omega) (by decide) (by omega) ⟨by decide, by decide⟩
  generalize pwa (fun i => l.getD i 0) (pwv (fun i => l.getD i 0) 6 (strL.getD 14 []) (p + 1)) = C at h1 h3 ⊢
  rw [z_1316 e (upd e.2.2.2.2.2.2.2.2.2.2.2.2.2.1 (3 * k) (nI 109)) m (nI (k + 1))] at h1
  obtain ⟨r1, r2⟩ := rest_109 (mo15 (mo16 (mo13 e (upd e.2.2.2.2.2.2.2.2.2.2.2.2.2.1 (3 * k) (nI 109))) (nI (k + 1))) (nI (p + 1))) (nI (3 * k))
  rw [q_109] at r1 r2
  refine y_fin hM hl hp he hpl hk h109 (by decide) C ⟨⟨m, r1.trans h1, fun i hi => ?_, fun hw => ?_⟩, r2.mpr h4⟩
  · exact ((h2 i (by omega)).trans (congrFun (z_13b _ _ _) i)).trans (upd_ne _ _ (by omega))
  · obtain ⟨v1, v2, v3⟩ := h3 hw
    refine ⟨?_, v2, fun h5 => absurd (v1 ▸ h5) (by decide)⟩
    rw [v1]; exact ((h2 (3 * k) (by omega)).trans (congrFun (z_13b _ _ _) _)).trans (upd_eq _ _ _)
theorem y_c119 {l : List Nat} {e : MoV} (hM : MX e.2.2.2.2.2.2.2.2.2.2.2.2.1 e.2.2.2.2.2.2.2.2.2.2.2.2.2.2.1 l) (hl : l.length ≤ 60) (hch : ∀ c ∈ l, c < 128) {p k : Nat} (hp : p < 2 ^ 26) (he : e.2.2.2.2.2.2.2.2.2.2.2.2.2.2.2.2 = nI k) (hpl : p < l.length) (hk : k ≤ 29) (h103 : ¬ l.getD p 0 = 103) (h116 : ¬ l.getD p 0 = 116) (h111 : ¬ l.getD p 0 = 111) (h115 : ¬ l.getD p 0 = 115) (h108 : ¬ l.getD p 0 = 108) (h109 : ¬ l.getD p 0 = 109) (h119 : l.getD p 0 = 119) :
    (∃ (m : Nat → Int32) (x : Int32), f_X10_readsCommand (mo15 e (nI p)) = ((if (pcm (fun i => l.getD i 0) p).1 = true then 1 else 0), mo15 (mo16 (mo13 e m) x) (nI (pcm (fun i => l.getD i 0) p).2.2.2.2)) ∧ (∀ i, i < 3 * k → m i = e.2.2.2.2.2.2.2.2.2.2.2.2.2.1 i) ∧ ((pcm (fun i => l.getD i 0) p).1 = true → x = nI (k + 1) ∧ prow m k (pcm (fun i => l.getD i 0) p))) ∧ ok_X10_readsCommand (mo15 e (nI p)) := by
  have ev : pcm (fun i => l.getD i 0) p = pwa (fun i => l.getD i 0) (pwv (fun i => l.getD i 0) 7 (strL.getD 15 []) (p + 1)) := by
    unfold pcm pvb
    rw [if_neg h103]
    rw [if_neg h116]
    rw [if_neg h111]
    rw [if_neg h115]
    rw [if_neg h108]
    rw [if_neg h109]
    rw [if_pos h119]
    rfl
  rw [ev]
  obtain ⟨⟨m, h1, h2, h3⟩, h4⟩ := y_waN (e := mo16 (mo13 e (upd e.2.2.2.2.2.2.2.2.2.2.2.2.2.1 (3 * k) (nI 119))) (nI (k + 1))) (hM_b hM _ _) hl hch (j := 3 * k) (p := p + 1) (tj := 15) (k := 7) (by omega) (by decide) (by omega) ⟨by decide, by decide⟩
  generalize pwa (fun i => l.getD i 0) (pwv (fun i => l.getD i 0) 7 (strL.getD 15 []) (p + 1)) = C at h1 h3 ⊢
  rw [z_1316 e (upd e.2.2.2.2.2.2.2.2.2.2.2.2.2.1 (3 * k) (nI 119)) m (nI (k + 1))] at h1
  obtain ⟨r1, r2⟩ := rest_119 (mo15 (mo16 (mo13 e (upd e.2.2.2.2.2.2.2.2.2.2.2.2.2.1 (3 * k) (nI 119))) (nI (k + 1))) (nI (p + 1))) (nI (3 * k))
  rw [q_119] at r1 r2
  refine y_fin hM hl hp he hpl hk h119 (by decide) C ⟨⟨m, r1.trans h1, fun i hi => ?_, fun hw => ?_⟩, r2.mpr h4⟩
  · exact ((h2 i (by omega)).trans (congrFun (z_13b _ _ _) i)).trans (upd_ne _ _ (by omega))
  · obtain ⟨v1, v2, v3⟩ := h3 hw
    refine ⟨?_, v2, fun h5 => absurd (v1 ▸ h5) (by decide)⟩
    rw [v1]; exact ((h2 (3 * k) (by omega)).trans (congrFun (z_13b _ _ _) _)).trans (upd_eq _ _ _)
theorem y_cmd {l : List Nat} {e : MoV} (hM : MX e.2.2.2.2.2.2.2.2.2.2.2.2.1 e.2.2.2.2.2.2.2.2.2.2.2.2.2.2.1 l) (hl : l.length ≤ 60) (hch : ∀ c ∈ l, c < 128) {p k : Nat} (hp : p < 2 ^ 26) (he : e.2.2.2.2.2.2.2.2.2.2.2.2.2.2.2.2 = nI k) (hk : p < l.length → k ≤ 29) :
    (∃ (m : Nat → Int32) (x : Int32), f_X10_readsCommand (mo15 e (nI p)) = ((if (pcm (fun i => l.getD i 0) p).1 = true then 1 else 0), mo15 (mo16 (mo13 e m) x) (nI (pcm (fun i => l.getD i 0) p).2.2.2.2)) ∧ (∀ i, i < 3 * k → m i = e.2.2.2.2.2.2.2.2.2.2.2.2.2.1 i) ∧ ((pcm (fun i => l.getD i 0) p).1 = true → x = nI (k + 1) ∧ prow m k (pcm (fun i => l.getD i 0) p))) ∧ ok_X10_readsCommand (mo15 e (nI p)) := by
  by_cases hpl : p < l.length
  · have hk := hk hpl
    by_cases h103 : l.getD p 0 = 103
    · exact y_c103 hM hl hch hp he hpl hk h103
    by_cases h116 : l.getD p 0 = 116
    · exact y_c116 hM hl hch hp he hpl hk h103 h116
    by_cases h111 : l.getD p 0 = 111
    · exact y_c111 hM hl hch hp he hpl hk h103 h116 h111
    by_cases h115 : l.getD p 0 = 115
    · exact y_c115 hM hl hch hp he hpl hk h103 h116 h111 h115
    by_cases h108 : l.getD p 0 = 108
    · exact y_c108 hM hl hch hp he hpl hk h103 h116 h111 h115 h108
    by_cases h109 : l.getD p 0 = 109
    · exact y_c109 hM hl hch hp he hpl hk h103 h116 h111 h115 h108 h109
    by_cases h119 : l.getD p 0 = 119
    · exact y_c119 hM hl hch hp he hpl hk h103 h116 h111 h115 h108 h109 h119
    have hz : f_X10_isFirst (nI (l.getD p 0)) = 0 := by
      unfold f_X10_isFirst
      have g := pg_lt hch p
      rw [if_neg (show ¬ nI (l.getD p 0) = (103 : Int32) from fun w => h103 ((nI_eq (b := 103) (by omega) (by decide)).mp w)), if_neg (show ¬ nI (l.getD p 0) = (116 : Int32) from fun w => h116 ((nI_eq (b := 116) (by omega) (by decide)).mp w)), if_neg (show ¬ nI (l.getD p 0) = (111 : Int32) from fun w => h111 ((nI_eq (b := 111) (by omega) (by decide)).mp w)), if_neg (show ¬ nI (l.getD p 0) = (115 : Int32) from fun w => h115 ((nI_eq (b := 115) (by omega) (by decide)).mp w)), if_neg (show ¬ nI (l.getD p 0) = (108 : Int32) from fun w => h108 ((nI_eq (b := 108) (by omega) (by decide)).mp w)), if_neg (show ¬ nI (l.getD p 0) = (109 : Int32) from fun w => h109 ((nI_eq (b := 109) (by omega) (by decide)).mp w)), if_neg (show ¬ nI (l.getD p 0) = (119 : Int32) from fun w => h119 ((nI_eq (b := 119) (by omega) (by decide)).mp w))]
    exact y_none hM hl (by omega) (by rw [if_pos hpl]; exact hz) (by
      unfold pcm pvb
      rw [if_neg h103, if_neg h116, if_neg h111, if_neg h115, if_neg h108, if_neg h109, if_neg h119]
      rfl)
  · exact y_none hM hl (by omega) (by rw [if_neg hpl]; decide) (by
      unfold pcm pvb
      have z : l.getD p 0 = 0 := pg_out (by omega)
      rw [if_neg (show ¬ l.getD p 0 = 103 by omega), if_neg (show ¬ l.getD p 0 = 116 by omega), if_neg (show ¬ l.getD p 0 = 111 by omega), if_neg (show ¬ l.getD p 0 = 115 by omega), if_neg (show ¬ l.getD p 0 = 108 by omega), if_neg (show ¬ l.getD p 0 = 109 by omega), if_neg (show ¬ l.getD p 0 = 119 by omega)]
      rfl)
