/-! ===== the words that every contract stands on: all good words of the tables ===== -/
def UW : List Cond := lw_tbl.filter goodWord
theorem uw {w : Cond} (k : Nat) (h : lw_tbl[k]? = some w) (g : goodWord w = true) : w ∈ UW := List.mem_filter.mpr ⟨List.mem_of_getElem? h, g⟩
theorem uw_good {w : Cond} (h : w ∈ UW) : goodWord w = true := (List.mem_filter.mp h).2
theorem uw_tbl {w : Cond} (h : w ∈ UW) : w ∈ lw_tbl := (List.mem_filter.mp h).1
theorem uw_all {ws : List Cond} (ks : List Nat) (h : ws.map some = ks.map (fun k => lw_tbl[k]?)) (g : ws.all goodWord = true) : ∀ w ∈ ws, w ∈ UW := by
  intro w hw
  refine List.mem_filter.mpr ⟨?_, List.all_eq_true.mp g w hw⟩
  have h1 : some w ∈ ws.map some := List.mem_map.mpr ⟨w, hw, rfl⟩
  rw [h] at h1
  obtain ⟨k, -, hk⟩ := List.mem_map.mp h1
  exact List.mem_of_getElem? hk
theorem uw_in {ws : List Cond} (h : ∀ w ∈ ws, w ∈ UW) : GoodIn UW ws := fun w hw => ⟨h w hw, good_of_word (uw_good (h w hw))⟩
abbrev wsU (y : MethodName) (b : ByteArray) (n : Nat) (ret : Option FieldType) : List Cond := Cond.code y b n ret :: UW
theorem uw_U {y : MethodName} {b : ByteArray} {n : Nat} {ret : Option FieldType} (h : Cond.code y b n ret ∈ UW) : ∀ w ∈ wsU y b n ret, w ∈ UW := fun w hw => (List.mem_cons.mp hw).elim (fun e => e ▸ h) id
theorem gV {own C : String} {idx n : Nat} {y : MethodName} {b : ByteArray} {ret : Option FieldType} (h1 : Cond.methodLink own idx y ∈ UW) (h2 : Cond.instanceMethod y ∈ UW) (h3 : Cond.selects C y y ∈ UW) (h4 : Cond.initialized C ∈ UW) (h5 : Cond.code y b n ret ∈ UW) : GoodIn UW (wsV own idx C y (wsU y b n ret)) := by
  refine uw_in fun w hw => ?_
  rcases List.mem_append.mp hw with h | h
  · simp only [List.mem_cons, List.not_mem_nil, or_false] at h
    rcases h with rfl | rfl | rfl | rfl <;> assumption
  · exact uw_U h5 w h
theorem gS {own : String} {idx n : Nat} {y : MethodName} {b : ByteArray} {ret : Option FieldType} (h1 : Cond.methodLink own idx y ∈ UW) (h2 : Cond.static y ∈ UW) (h4 : Cond.initialized y.cls ∈ UW) (h5 : Cond.code y b n ret ∈ UW) : GoodIn UW (va_wsS own idx y (wsU y b n ret)) := by
  refine uw_in fun w hw => ?_
  rcases List.mem_append.mp hw with h | h
  · simp only [List.mem_cons, List.not_mem_nil, or_false] at h
    rcases h with rfl | rfl | rfl <;> assumption
  · exact uw_U h5 w h
/-! ===== what all contracts are over: class ids, slots, array classes, addresses of constants ===== -/
abbrev GG : Type := va_G × (Nat → ClassId) × (Nat → Nat) × (Nat → Nat)
abbrev tysG (G : GG) : List (ClassId × FieldType) := [(G.2.1 0, .int), (G.2.1 1, .object RX8), (G.2.1 2, .byte)]
abbrev KK (G : GG) (U : State) : Prop := va_K G.1 vwCl (tysG G) U
/-! the law's script: an array of ints that nothing changes -/
abbrev scB (G : GG) : Nat := G.2.2.2 200
abbrev scL (G : GG) : Nat := G.2.2.2 201
abbrev scX (G : GG) (i : Nat) : Int32 := Int32.ofNat (G.2.2.2 (300 + i))
def fnm : Nat → String := fun k => match k with
  | 0 => "NOTHING"
  | 1 => "INDEX"
  | 2 => "ARGUMENT"
  | 3 => "PAST"
  | 4 => "STATE"
  | _ => "ELEMENT"
def isCastW (w : Cond) : Bool := match w with
  | .castable .. => true
  | .declares _ => true
  | .privateMethod _ => true
  | .arrayOver _ => true
  | _ => false
def CW : List Cond := lw_tbl.filter isCastW
def isNestW (w : Cond) : Bool := match w with
  | .methodLinkNest .. => true
  | _ => false
def MW : List Cond := lw_tbl.filter isNestW
def NC : List (String × String) := [("java/lang/IndexOutOfBoundsException", "java/lang/IllegalArgumentException"), ("java/lang/UnsupportedOperationException", "java/lang/IllegalArgumentException"), ("java/lang/IllegalStateException", "java/lang/IllegalArgumentException"), ("java/util/NoSuchElementException", "java/lang/IllegalArgumentException"), ("java/lang/ArithmeticException", "java/lang/IllegalArgumentException"), ("java/lang/IndexOutOfBoundsException", "java/lang/IllegalStateException"), ("java/lang/IllegalArgumentException", "java/lang/IllegalStateException"), ("java/lang/UnsupportedOperationException", "java/lang/IllegalStateException"), ("java/util/NoSuchElementException", "java/lang/IllegalStateException"), ("java/lang/ArithmeticException", "java/lang/IllegalStateException"), ("java/lang/IllegalArgumentException", "java/lang/IndexOutOfBoundsException"), ("java/lang/UnsupportedOperationException", "java/lang/IndexOutOfBoundsException"), ("java/lang/IllegalStateException", "java/lang/IndexOutOfBoundsException"), ("java/util/NoSuchElementException", "java/lang/IndexOutOfBoundsException"), ("java/lang/ArithmeticException", "java/lang/IndexOutOfBoundsException"), ("java/lang/IndexOutOfBoundsException", "java/lang/UnsupportedOperationException"), ("java/lang/IllegalArgumentException", "java/lang/UnsupportedOperationException"), ("java/lang/IllegalStateException", "java/lang/UnsupportedOperationException"), ("java/util/NoSuchElementException", "java/lang/UnsupportedOperationException"), ("java/lang/ArithmeticException", "java/lang/UnsupportedOperationException"), ("java/lang/IndexOutOfBoundsException", "java/util/NoSuchElementException"), ("java/lang/IllegalArgumentException", "java/util/NoSuchElementException"), ("java/lang/UnsupportedOperationException", "java/util/NoSuchElementException"), ("java/lang/IllegalStateException", "java/util/NoSuchElementException"), ("java/lang/ArithmeticException", "java/util/NoSuchElementException")]
/-- the string constants of the class and the law: own class, place, text, number -/
def strT : List (String × Nat × String × Nat) := [("MoonlitDoors", 350, "no such door", 31), ("MoonlitDoors$Doors", 74, " k", 16), ("MoonlitDoors", 368, "no such door or person", 26), ("MoonlitDoors", 355, "out of range", 27), ("MoonlitDoors", 378, "the day has passed", 28), ("MoonlitDoors", 384, "there already, or no room", 29), ("MoonlitDoors", 389, "not there", 30), ("MoonlitDoors", 160, "no room for a person", 33), ("MoonlitDoors", 353, "no such person", 34), ("MoonlitDoors", 359, "no such element", 32), ("MoonlitDoors", 336, "nothing can be undone", 39), ("MoonlitDoors", 344, "no snapshot", 40), ("MoonlitDoorsLaw", 166, "wait ", 17), ("MoonlitDoorsLaw", 175, ";try ", 18), ("MoonlitDoorsLaw", 181, ";open ", 19), ("MoonlitDoorsLaw", 183, " ", 20), ("MoonlitDoorsLaw", 185, ";try 0", 21), ("MoonlitDoorsLaw", 187, ";shut ", 22), ("MoonlitDoorsLaw", 189, ";give 0", 23), ("MoonlitDoorsLaw", 191, ";moon ", 24), ("MoonlitDoorsLaw", 193, ";take 1", 25), ("MoonlitDoors", 302, "the buffer is full", 36), ("MoonlitDoors$Program", 91, "give ", 0), ("MoonlitDoors$Program", 93, "take ", 1), ("MoonlitDoors$Program", 95, "try ", 2), ("MoonlitDoors$Program", 97, "open ", 3), ("MoonlitDoors$Program", 99, "shut ", 4), ("MoonlitDoors$Program", 101, "lift ", 5), ("MoonlitDoors$Program", 103, "moon ", 6), ("MoonlitDoors$Program", 105, "wait ", 7), ("MoonlitDoors", 318, "malformed program", 37), ("MoonlitDoors", 330, "a command failed", 38), ("MoonlitDoors", 273, "no attempts so far", 35)]
def strL : List (List Nat) := [[103, 105, 118, 101, 32], [116, 97, 107, 101, 32], [116, 114, 121, 32], [111, 112, 101, 110, 32], [115, 104, 117, 116, 32], [108, 105, 102, 116, 32], [109, 111, 111, 110, 32], [119, 97, 105, 116, 32], [105, 118, 101, 32], [107, 101, 32], [114, 121, 32], [112, 101, 110, 32], [104, 117, 116, 32], [105, 102, 116, 32], [111, 111, 110, 32], [97, 105, 116, 32], [32, 107], [119, 97, 105, 116, 32], [59, 116, 114, 121, 32], [59, 111, 112, 101, 110, 32], [32], [59, 116, 114, 121, 32, 48], [59, 115, 104, 117, 116, 32], [59, 103, 105, 118, 101, 32, 48], [59, 109, 111, 111, 110, 32], [59, 116, 97, 107, 101, 32, 49]]
/-- the texts that the class and the law have: not those at the places 8 to 15 -/
abbrev sOK (j : Nat) : Prop := j < strL.length ∧ (j < 8 ∨ 16 ≤ j)
