/-! ===== what the reading calls answer where they are asked within bounds ===== -/
theorem dr_1 {v : DoV} {n j : Nat} (h : v.1 = nI n) (hn : n ≤ 8) (hj : j < n) : f_X2_holds v (nI j) = 1 := by
  unfold f_X2_holds
  rw [h, if_neg (nI_pos (by omega)), if_neg (nI_ge hj (by omega))]
theorem ps_1 {v : PeV} {n j : Nat} (h : v.1 = nI n) (hn : n ≤ 6) (hj : j < n) : f_X5_holds v (nI j) = 1 := by
  unfold f_X5_holds
  rw [h, if_neg (nI_pos (by omega)), if_neg (nI_ge hj (by omega))]
theorem ex_1 {v : ExV} {n j : Nat} (h : v.1 = nI n) (hn : n ≤ 12) (hj : j < n) : f_X1_holds v (nI j) = 1 := by
  unfold f_X1_holds
  rw [h, if_neg (nI_pos (by omega)), if_neg (nI_ge hj (by omega))]
theorem dr_ok {q : McV} {v : StV} {n j : Nat} (h : v.2.2.1.1 = nI n) (hn : n ≤ 8) (hj : j < n) : f_X9_requireDoor q v (nI j) = "" := by
  unfold f_X9_requireDoor
  rw [dr_1 h hn hj]; rfl
theorem ps_ok {q : McV} {v : StV} {n j : Nat} (h : v.2.2.2.2.1.1 = nI n) (hn : n ≤ 6) (hj : j < n) : f_X9_requirePerson q v (nI j) = "" := by
  unfold f_X9_requirePerson
  rw [ps_1 h hn hj]; rfl
theorem el_ok : f_X9_requireElement (1 : Int32) = "" := rfl
theorem rg_ok {x n : Nat} (h : x ≤ n) (hn : n < 2 ^ 31) : f_X9_requireRange (nI x) 0 (nI n) = "" := by
  unfold f_X9_requireRange
  rw [if_neg (nI_pos (by omega)), if_pos (nI_le h hn)]
theorem V_phasesOf {q : McV} {v : StV} {n j : Nat} (h : v.2.2.1.1 = nI n) (hn : n ≤ 8) (hj : j < n) : f_X9_phasesOf q v (nI j) = ("", f_X2_phaseSetFor v.2.2.1 (nI j)) := by
  unfold f_X9_phasesOf; rw [dr_ok h hn hj]; rfl
theorem V_keyOf {q : McV} {v : StV} {n j : Nat} (h : v.2.2.1.1 = nI n) (hn : n ≤ 8) (hj : j < n) : f_X9_keyOf q v (nI j) = ("", f_X2_keyFor v.2.2.1 (nI j)) := by
  unfold f_X9_keyOf; rw [dr_ok h hn hj]; rfl
theorem V_hourCount {q : McV} {v : StV} {n j : Nat} (h : v.2.2.1.1 = nI n) (hn : n ≤ 8) (hj : j < n) : f_X9_hourCount q v (nI j) = ("", f_X2_countHours v.2.2.1 (nI j)) := by
  unfold f_X9_hourCount; rw [dr_ok h hn hj]; rfl
theorem V_isUnlocked {q : McV} {v : StV} {n j : Nat} (h : v.2.2.1.1 = nI n) (hn : n ≤ 8) (hj : j < n) : f_X9_isUnlocked q v (nI j) = ("", f_X8_isUnlockedAt v (nI j) v.1) := by
  unfold f_X9_isUnlocked; rw [dr_ok h hn hj]; rfl
theorem V_isHourOf {q : McV} {v : StV} {n j x : Nat} (h : v.2.2.1.1 = nI n) (hn : n ≤ 8) (hj : j < n) (hx : x ≤ 23) : f_X9_isHourOf q v (nI j) (nI x) = ("", f_X2_containsHour v.2.2.1 (nI j) (nI x)) := by
  unfold f_X9_isHourOf; rw [dr_ok h hn hj, show (23 : Int32) = nI 23 from rfl, rg_ok hx (by decide)]; rfl
theorem V_entriesOn {q : McV} {v : StV} {n j x : Nat} (h : v.2.2.1.1 = nI n) (hn : n ≤ 8) (hj : j < n) (hx : x ≤ 7) : (f_X9_entriesOn q v (nI j) (nI x)).1 = "" := by
  unfold f_X9_entriesOn; rw [dr_ok h hn hj, show (7 : Int32) = nI 7 from rfl, rg_ok hx (by decide)]; rfl
theorem V_refusalsOn {q : McV} {v : StV} {n j x : Nat} (h : v.2.2.1.1 = nI n) (hn : n ≤ 8) (hj : j < n) (hx : x ≤ 7) : (f_X9_refusalsOn q v (nI j) (nI x)).1 = "" := by
  unfold f_X9_refusalsOn; rw [dr_ok h hn hj, show (7 : Int32) = nI 7 from rfl, rg_ok hx (by decide)]; rfl
theorem V_hasException {q : McV} {v : StV} {n j : Nat} (h : v.2.2.1.1 = nI n) (hn : n ≤ 8) (hj : j < n) (x : Int32) : f_X9_hasException q v (nI j) x = ("", if f_X1_positionOf v.2.2.2.1 (nI j) x = -1 then 0 else 1) := by
  unfold f_X9_hasException; rw [dr_ok h hn hj, if_pos rfl]
  split <;> rfl
theorem V_hasKey {q : McV} {v : StV} {n j : Nat} (h : v.2.2.2.2.1.1 = nI n) (hn : n ≤ 6) (hj : j < n) (x : Int32) : f_X9_hasKey q v (nI j) x = ("", f_X5_ringContains v.2.2.2.2.1 (nI j) x) := by
  unfold f_X9_hasKey; rw [ps_ok h hn hj]; rfl
theorem V_doorsOfRing {q : McV} {v : StV} {n j : Nat} (h : v.2.2.2.2.1.1 = nI n) (hn : n ≤ 6) (hj : j < n) : f_X9_doorsOfRing q v (nI j) = ("", f_X8_countDoorsOfRing v (nI j)) := by
  unfold f_X9_doorsOfRing; rw [ps_ok h hn hj]; rfl
theorem V_openDoorsFor {q : McV} {v : StV} {n j : Nat} (h : v.2.2.2.2.1.1 = nI n) (hn : n ≤ 6) (hj : j < n) : f_X9_openDoorsFor q v (nI j) = ("", f_X8_countOpenDoors v (nI j)) := by
  unfold f_X9_openDoorsFor; rw [ps_ok h hn hj]; rfl
theorem V_entriesOf {q : McV} {v : StV} {n j : Nat} (h : v.2.2.2.2.1.1 = nI n) (hn : n ≤ 6) (hj : j < n) : f_X9_entriesOf q v (nI j) = ("", v.2.2.2.2.1.2.2 j) := by
  unfold f_X9_entriesOf; rw [ps_ok h hn hj, if_pos rfl]
  unfold f_X5_entriesFor
  rw [n_at _ (by omega) (by decide)]
theorem V_exceptionDay {q : McV} {v : StV} {n j : Nat} (h : v.2.2.2.1.1 = nI n) (hn : n ≤ 12) (hj : j < n) : f_X9_exceptionDay q v (nI j) = ("", v.2.2.2.1.2.2.1 j) := by
  unfold f_X9_exceptionDay; rw [ex_1 h hn hj, el_ok, if_pos rfl]
  unfold f_X1_dayAt
  rw [n_at _ (by omega) (by decide)]
theorem V_exceptionDoor {q : McV} {v : StV} {n j : Nat} (h : v.2.2.2.1.1 = nI n) (hn : n ≤ 12) (hj : j < n) : f_X9_exceptionDoor q v (nI j) = ("", v.2.2.2.1.2.1 j) := by
  unfold f_X9_exceptionDoor; rw [ex_1 h hn hj, el_ok, if_pos rfl]
  unfold f_X1_doorAt
  rw [n_at _ (by omega) (by decide)]
theorem V_attemptsWith {q : McV} {v : StV} {x : Nat} (hx : x < 5) : f_X9_attemptsWith q v (nI x) = ("", v.2.2.2.2.2.2.2.2.1 x) := by
  unfold f_X9_attemptsWith; rw [show (4 : Int32) = nI 4 from rfl, rg_ok (by omega) (by decide), if_pos rfl]
  unfold f_X0_countResults
  rw [n_at _ hx (by decide)]
theorem V_phaseOn {q : McV} {v : StV} {x : Nat} (hx : x ≤ 9999) : f_X9_phaseOn q v (nI x) = ("", f_X8_phaseFor v (nI x)) := by
  unfold f_X9_phaseOn; rw [show (9999 : Int32) = nI 9999 from rfl, rg_ok hx (by decide)]; rfl
theorem rem_1 {a : AuV} {n x : Nat} (h : a.1 = nI n) (hn : n < 2 ^ 31) (hx : x < 10) (hxn : x < n) : f_X0_remembers a (nI x) = 1 := by
  unfold f_X0_remembers
  rw [h, if_neg (nI_pos (by omega)), show (10 : Int32) = nI 10 from rfl, if_neg (nI_ge hx (by decide)), if_neg (nI_ge hxn hn)]
theorem rem_0 {a : AuV} {n x : Nat} (h : a.1 = nI n) (hn : n < 2 ^ 31) (hx2 : x < 2 ^ 31) (hx : 10 ≤ x ∨ n ≤ x) : f_X0_remembers a (nI x) = 0 := by
  unfold f_X0_remembers
  rw [h, if_neg (nI_pos hx2), show (10 : Int32) = nI 10 from rfl]
  by_cases g : 10 ≤ x
  · rw [if_pos (nI_le g hx2)]
  · rw [if_neg (nI_ge (by omega) (by decide)), if_pos (nI_le (by omega) hx2)]
theorem V_loggedPerson {q : McV} {v : StV} {n x : Nat} (h : v.2.2.2.2.2.1 = nI n) (hn : n < 2 ^ 31) (hx : x < 10) (hxn : x < n) : (f_X9_loggedPerson q v (nI x)).1 = "" := by
  unfold f_X9_loggedPerson; rw [rem_1 h hn hx hxn]; rfl
theorem V_loggedDoor {q : McV} {v : StV} {n x : Nat} (h : v.2.2.2.2.2.1 = nI n) (hn : n < 2 ^ 31) (hx : x < 10) (hxn : x < n) : (f_X9_loggedDoor q v (nI x)).1 = "" := by
  unfold f_X9_loggedDoor; rw [rem_1 h hn hx hxn]; rfl
theorem V_loggedResult {q : McV} {v : StV} {n x : Nat} (h : v.2.2.2.2.2.1 = nI n) (hn : n < 2 ^ 31) (hx : x < 10) (hxn : x < n) : (f_X9_loggedResult q v (nI x)).1 = "" := by
  unfold f_X9_loggedResult; rw [rem_1 h hn hx hxn]; rfl
/-- a sum of the first k numbers of a row -/
def sm (f : Nat → Int32) : Nat → Int32
  | 0 => 0
  | k + 1 => sm f k + f k
theorem sm_congr {f g : Nat → Int32} : ∀ n, (∀ i, i < n → f i = g i) → sm f n = sm g n := by
  intro n
  induction n with
  | zero => intro _; rfl
  | succ n ih =>
    intro h
    show sm f n + f n = sm g n + g n
    rw [ih (fun i hi => h i (by omega)), h n (by omega)]
/-- 1 where p holds -/
abbrev b1 (p : Prop) [Decidable p] : Int32 := if p then 1 else 0
