abbrev TxV : Type := Nat × (Nat → Int32)
theorem gO {own C owner : String} {idx n : Nat} {x y : MethodName} {b : ByteArray} {ret : Option FieldType} (h1 : Cond.methodLink own idx x ∈ UW) (h2 : Cond.sameMethod x.cls owner x.name x.desc ∈ UW) (h3 : Cond.selects C x y ∈ UW) (h4 : Cond.instanceMethod y ∈ UW) (h6 : Cond.initialized y.cls ∈ UW) (h5 : Cond.code y b n ret ∈ UW) (h7 : Cond.instanceMethod ⟨owner, x.name, x.desc⟩ ∈ UW) : GoodIn UW (va_wsO own idx C owner x y (wsU y b n ret)) := by
  refine uw_in fun w hw => ?_
  rcases List.mem_append.mp hw with h | h
  · simp only [List.mem_cons, List.not_mem_nil, or_false] at h
    rcases h with rfl | rfl | rfl | rfl | rfl | rfl <;> assumption
  · exact uw_U h5 w h
section Rows76t
variable {p : Program} {l : Launch} {e : Env} {R : Room} {s : State} {m : MethodId} {args : Array Value} {below : List Frame} {meth : Method} {c : Code} {H : Heap} {locs : List Loc} {cells slots : Nat} {Q : State → Prop} {cc : ByteArray} {pc : Nat} {ls : Array Slot}
/-- a call of a method that another one stands in for, in the receiver's class -/
theorem r_O {own C owner : String} {x y : MethodName} {b b0 : ByteArray} {mL nL n index d m0 : Nat} {ret r0 : Option FieldType} {G : GG} {A : Nat → Prop} {ws wc : va_W} {ba : Addr} {As rest st0 st1 : List Value} {v : Option Value} {ex : Prop}
    (hM : rMet l y b mL ret d G wc (.ref ba :: As) v ex) (S : CallFix p m c cc nL s args UW own) (g : GoodIn UW (va_wsO own index C owner x y (wsU y b mL ret))) (h0 : Cond.code ⟨owner, x.name, x.desc⟩ b0 m0 r0 ∈ UW) (hd : owner ≠ "java/lang/invoke/MethodHandle" ∧ owner ≠ "java/lang/invoke/VarHandle" ∧ (parseMethodDescriptor x.desc).map (fun d => d.parameters.length) = some n)
    (hK : KK G s) (hST : ST G A s) (hS : va_S A s.heap H locs) (hP : va_P G.1 vwCl ws H) (isC : List Nat) (hC : isC.filterMap (fun i => ws[i]?) = wc) (hr : ∃ cell : Cell, H[ba]? = some cell ∧ cell.vm.isStatics = false ∧ s.vm.findClass C = some cell.cls)
    (hR : d + 1 ≤ R.frames ∧ 8 + (mL + 11) + 40 * d ≤ R.locals) (hf : cells ≤ R.cells ∧ slots ≤ R.slots) (hn : As.length = n) (hsize : ls.size = nL) (hst : st0 = As.reverse ++ .ref ba :: rest) (hcat : (rest.map fun v => v.category).sum ≤ 8) (hdg : decode cc pc = .ok (.invokevirtual index, 3)) (h1 : v.toList ++ rest = st1)
    (kk : ex → W p l e R s m args below meth c H locs cells slots Q (F0 m (pc + 3) ls st1)) : W p l e R s m args below meth c H locs cells slots Q (F0 m pc ls st0) := by
  have hPc := hP.sub isC hC
  exact r_go (va_runU S hM (va_cwO n S.2.2.2.2 g rfl rfl rfl h0 hd hR) ⟨rPc_blind, hr, fun U hU hW => ⟨rfl, by rw [hU]; exact hPc, va_K.moved hW.alike hK, hST.go hS (fun _ h => h.elim) hW hU⟩⟩ rfl hn hsize hst (lv_room hcat) hdg hf) h1 kk
end Rows76t
theorem fit_b {c : ClassId} {n : Nat} {f : Nat → Int32} (h : ∀ i, i < n → fits .byte (.int (f i)) = true) : ∀ (i : Nat) (v : Value), (vp_cell c (n, .inl f)).slots[i]? = some v → fits .byte v = true := by
  intro i v hv
  have h1 : (arrV c n (fun j => .int (f j))).slots[i]? = some v := hv
  by_cases hi : i < n
  · rw [arrV_read c (fun j => .int (f j)) hi] at h1
    cases h1
    exact h i hi
  · have h2 : (arrV c n (fun j => .int (f j))).slots.size ≤ i := by rw [arrV_size]; omega
    rw [Array.getElem?_eq_none h2] at h1
    cases h1
theorem uws_J0 : ∀ w ∈ wsJ00, w ∈ UW := uw_all [416, 418, 420, 422] (by decide +kernel) (by decide +kernel)
def f_J0_isLatin1_aae02T (tj : TxV) : Int32 := (1 : Int32)
set_option maxHeartbeats 4000000 in
set_option maxRecDepth 100000 in
theorem c_J0_isLatin1_aae02T (l : Launch) (G : GG) (tjh0 : Nat) (tjh1 : Nat) (tj : TxV) : rMet l yJ0_isLatin1_aae02 cJ0_isLatin1_aae02 1 (some .boolean) 1 G (fl [[(tjh0, .inr (0, [.ref tjh1, .int (0 : Int32), .int (0 : Int32), .int (0 : Int32)]))], [(tjh1, .inl (G.2.1 2, tj.1, .inl tj.2))]]) [.ref tjh0] (some (.int (f_J0_isLatin1_aae02T tj))) (narrow .boolean (.int (f_J0_isLatin1_aae02T tj)) = .int (f_J0_isLatin1_aae02T tj)) := by
  refine r_start (by decide +kernel) (Nat.le_of_ble_eq_true rfl) ?_
  intro p e s m below meth c hx hb hr hml hts hown hlk hP hK hST ls hl
  have hS : va_S (fun _ => False) s.heap s.heap [] := va_S.rf
  have hown : s.vm.findClass RJ0 = some m.cls := hown
  have hl : lv_has ls 1 [(0, .ref tjh0)] := hl
  have hF : f_J0_isLatin1_aae02T tj = (1 : Int32) := rfl
  refine va_gets (v := .int (1 : Int32)) hx hb hST.compact hS hown (hts _ u_284) (fun _ h9 => h9) dJ0_isLatin1_aae02_0 ?_
  refine lv_if_eq (tgt := 17) hx hb dJ0_isLatin1_aae02_3 (by decide) (fun c_1 => ?_) (fun c_1 => ?_)
  · exact absurd c_1 (by decide)
  · refine lv_aload_n hx hb dJ0_isLatin1_aae02_6 rfl (lv_at hl 0 rfl) ?_
    refine va_get (D := G.1) (ci := 0) (v := .int (0 : Int32)) (C := RJ0) (T := TJ0) (N := 4) hx hb hts uws_J0 hown hK hP 0 rfl rfl 1 (by decide) (hts _ u_415) (fun _ h9 => h9) rfl dJ0_isLatin1_aae02_7 ?_
    refine lv_if_ne (tgt := 17) hx hb dJ0_isLatin1_aae02_10 (by decide) (fun c_2 => ?_) (fun c_2 => ?_)
    · exact absurd c_2 (by decide)
    · refine lv_iconst (v := (1 : Int32)) hx hb dJ0_isLatin1_aae02_13 (by decide) ?_
      refine lv_goto (tgt := 18) hx hb dJ0_isLatin1_aae02_14 (by decide) ?_
      exact r_ret hx hb hr hlk rfl (by rw [hF]) (by rw [hF]; exact (rfl : narrow .boolean (.int (1 : Int32)) = .int (1 : Int32))) dJ0_isLatin1_aae02_18
def f_J0_coder_7d493T (tj : TxV) : Int32 := (0 : Int32)
set_option maxHeartbeats 4000000 in
set_option maxRecDepth 100000 in
theorem c_J0_coder_7d493T (l : Launch) (G : GG) (tjh0 : Nat) (tjh1 : Nat) (tj : TxV) : rMet l yJ0_coder_7d493 cJ0_coder_7d493 1 (some .byte) 1 G (fl [[(tjh0, .inr (0, [.ref tjh1, .int (0 : Int32), .int (0 : Int32), .int (0 : Int32)]))], [(tjh1, .inl (G.2.1 2, tj.1, .inl tj.2))]]) [.ref tjh0] (some (.int (f_J0_coder_7d493T tj))) (True) := by
  refine r_start (by decide +kernel) (Nat.le_of_ble_eq_true rfl) ?_
  intro p e s m below meth c hx hb hr hml hts hown hlk hP hK hST ls hl
  have hS : va_S (fun _ => False) s.heap s.heap [] := va_S.rf
  have hown : s.vm.findClass RJ0 = some m.cls := hown
  have hl : lv_has ls 1 [(0, .ref tjh0)] := hl
  have hF : f_J0_coder_7d493T tj = (0 : Int32) := rfl
  refine va_gets (v := .int (1 : Int32)) hx hb hST.compact hS hown (hts _ u_284) (fun _ h9 => h9) dJ0_coder_7d493_0 ?_
  refine lv_if_eq (tgt := 13) hx hb dJ0_coder_7d493_3 (by decide) (fun c_1 => ?_) (fun c_1 => ?_)
  · exact absurd c_1 (by decide)
  · refine lv_aload_n hx hb dJ0_coder_7d493_6 rfl (lv_at hl 0 rfl) ?_
    refine va_get (D := G.1) (ci := 0) (v := .int (0 : Int32)) (C := RJ0) (T := TJ0) (N := 4) hx hb hts uws_J0 hown hK hP 0 rfl rfl 1 (by decide) (hts _ u_415) (fun _ h9 => h9) rfl dJ0_coder_7d493_7 ?_
    refine lv_goto (tgt := 14) hx hb dJ0_coder_7d493_10 (by decide) ?_
    exact r_ret hx hb hr hlk rfl (by rw [hF]) trivial dJ0_coder_7d493_14
def f_J0_length_8abf5T (tj : TxV) : Int32 := (nI tj.1)
set_option maxHeartbeats 4000000 in
set_option maxRecDepth 100000 in
theorem c_J0_length_8abf5T (l : Launch) (G : GG) (tjh0 : Nat) (tjh1 : Nat) (tj : TxV) : rMet l yJ0_length_8abf5 cJ0_length_8abf5 1 (some .int) 2 G (fl [[(tjh0, .inr (0, [.ref tjh1, .int (0 : Int32), .int (0 : Int32), .int (0 : Int32)]))], [(tjh1, .inl (G.2.1 2, tj.1, .inl tj.2))]]) [.ref tjh0] (some (.int (f_J0_length_8abf5T tj))) (True) := by
  refine r_start (by decide +kernel) (Nat.le_of_ble_eq_true rfl) ?_
  intro p e s m below meth c hx hb hr hml hts hown hlk hP hK hST ls hl
  have hS : va_S (fun _ => False) s.heap s.heap [] := va_S.rf
  have hown : s.vm.findClass RJ0 = some m.cls := hown
  have hl : lv_has ls 1 [(0, .ref tjh0)] := hl
  have hF : f_J0_length_8abf5T tj = (nI tj.1) := rfl
  refine lv_aload_n hx hb dJ0_length_8abf5_0 rfl (lv_at hl 0 rfl) ?_
  refine va_get (D := G.1) (ci := 0) (v := .ref tjh1) (C := RJ0) (T := TJ0) (N := 4) hx hb hts uws_J0 hown hK hP 0 rfl rfl 0 (by decide) (hts _ u_414) (fun _ h9 => h9) rfl dJ0_length_8abf5_1 ?_
  refine va_alen (v := (nI tj.1)) hx hb hK hP 1 2 rfl rfl rfl dJ0_length_8abf5_4 ?_
  refine lv_aload_n hx hb dJ0_length_8abf5_5 rfl (lv_at hl 0 rfl) ?_
  refine r_V (own := RJ0) (v := (some (.int (0 : Int32)))) (st1 := [.int (0 : Int32), .int (nI tj.1)]) (As := []) (rest := [.int (nI tj.1)]) (c_J0_coder_7d493T l G tjh0 tjh1 tj) ⟨hx, hb, hml, hown, hts⟩ g_J0_335 hdv_J0_coder_7d493 hK hST hS hP [0, 1] rfl (k0 := 0) rfl rfl rfl ⟨Nat.le_of_ble_eq_true rfl, Nat.le_of_ble_eq_true rfl⟩ ⟨Nat.le_of_ble_eq_true rfl, Nat.le_of_ble_eq_true rfl⟩ rfl hl.1 rfl (Nat.le_of_ble_eq_true rfl) dJ0_length_8abf5_6 rfl (fun b_1 => ?_)
  refine lv_ishr hx hb dJ0_length_8abf5_9 ?_
  rw [sb_shr0]
  exact r_ret hx hb hr hlk rfl (by rw [hF]) trivial dJ0_length_8abf5_10
def f_J1_charAt_3b067T (ryn : Nat) (ry : Nat → Int32) (x : Int32) : Int32 := (((ry x.toNatClampNeg) &&& (255 : Int32)).toUInt32 % 65536).toInt32
def ok_J1_charAt_3b067T (ryn : Nat) (ry : Nat → Int32) (x : Int32) : Prop := (ok_J0_checkIndex_df160 x (nI ryn) ∧ (vp_in x ryn ∧ True))
set_option maxHeartbeats 4000000 in
set_option maxRecDepth 100000 in
theorem c_J1_charAt_3b067T (l : Launch) (G : GG) (ryh : Nat) (ryn : Nat) (ry : Nat → Int32) (x : Int32) (hok : ok_J1_charAt_3b067T ryn ry x) (hyp_ryn : ryn < 2147483648) : rMet l yJ1_charAt_3b067 cJ1_charAt_3b067 2 (some .char) 3 G (fl [[(ryh, .inl (G.2.1 2, ryn, .inl ry))]]) [.ref ryh, .int x] (some (.int (f_J1_charAt_3b067T ryn ry x))) (narrow .char (.int (f_J1_charAt_3b067T ryn ry x)) = .int (f_J1_charAt_3b067T ryn ry x)) := by
  refine r_start (by decide +kernel) (Nat.le_of_ble_eq_true rfl) ?_
  intro p e s m below meth c hx hb hr hml hts hown hlk hP hK hST ls hl
  have hS : va_S (fun _ => False) s.heap s.heap [] := va_S.rf
  have hown : s.vm.findClass RJ1 = some m.cls := hown
  have hl : lv_has ls 2 [(0, .ref ryh), (1, .int x)] := hl
  have hF : f_J1_charAt_3b067T ryn ry x = (((ry x.toNatClampNeg) &&& (255 : Int32)).toUInt32 % 65536).toInt32 := rfl
  have hok : (ok_J0_checkIndex_df160 x (nI ryn) ∧ (vp_in x ryn ∧ True)) := hok
  refine lv_iload_n hx hb dJ1_charAt_3b067_0 rfl (lv_at hl 1 rfl) ?_
  refine lv_aload_n hx hb dJ1_charAt_3b067_1 rfl (lv_at hl 0 rfl) ?_
  refine va_alen (v := (nI ryn)) hx hb hK hP 0 2 rfl rfl rfl dJ1_charAt_3b067_2 ?_
  have k_1 := hok.1
  have hok := hok.2
  refine r_S (own := RJ1) (v := none) (st1 := []) (As := [.int x, .int (nI ryn)]) (rest := []) (c_J0_checkIndex_df160 l G x (nI ryn) k_1) ⟨hx, hb, hml, hown, hts⟩ g_J1_9 hds_J0_checkIndex_df160 hK hST hS hP [] rfl ⟨Nat.le_of_ble_eq_true rfl, Nat.le_of_ble_eq_true rfl⟩ ⟨Nat.le_of_ble_eq_true rfl, Nat.le_of_ble_eq_true rfl⟩ rfl hl.1 rfl (Nat.le_of_ble_eq_true rfl) dJ1_charAt_3b067_3 rfl (fun b_2 => ?_)
  refine lv_aload_n hx hb dJ1_charAt_3b067_6 rfl (lv_at hl 0 rfl) ?_
  refine lv_iload_n hx hb dJ1_charAt_3b067_7 rfl (lv_at hl 1 rfl) ?_
  have h_3 := hok.1
  have hok := hok.2
  refine va_bald hx hb hK hP 0 2 rfl rfl h_3 dJ1_charAt_3b067_8 ?_
  refine lv_sipush (v := (255 : Int32)) hx hb dJ1_charAt_3b067_9 (by decide) ?_
  refine lv_iand hx hb dJ1_charAt_3b067_12 ?_
  refine lv_i2c hx hb dJ1_charAt_3b067_13 rfl ?_
  exact r_ret hx hb hr hlk (pk_nc _) (by rw [hF]) (by rw [hF]; exact ((pk_nc _) : narrow .char (.int ((((ry x.toNatClampNeg) &&& (255 : Int32)).toUInt32 % 65536).toInt32)) = .int ((((ry x.toNatClampNeg) &&& (255 : Int32)).toUInt32 % 65536).toInt32))) dJ1_charAt_3b067_14
def f_J0_charAt_5068eT (tj : TxV) (x : Int32) : Int32 := (f_J1_charAt_3b067T tj.1 tj.2 x)
def ok_J0_charAt_5068eT (tj : TxV) (x : Int32) : Prop := (ok_J1_charAt_3b067T tj.1 tj.2 x ∧ (tj.1 < 2147483648 ∧ True))
set_option maxHeartbeats 4000000 in
set_option maxRecDepth 100000 in
theorem c_J0_charAt_5068eT (l : Launch) (G : GG) (tjh0 : Nat) (tjh1 : Nat) (tj : TxV) (x : Int32) (hok : ok_J0_charAt_5068eT tj x) : rMet l yJ0_charAt_5068e cJ0_charAt_5068e 2 (some .char) 4 G (fl [[(tjh0, .inr (0, [.ref tjh1, .int (0 : Int32), .int (0 : Int32), .int (0 : Int32)]))], [(tjh1, .inl (G.2.1 2, tj.1, .inl tj.2))]]) [.ref tjh0, .int x] (some (.int (f_J0_charAt_5068eT tj x))) (narrow .char (.int (f_J0_charAt_5068eT tj x)) = .int (f_J0_charAt_5068eT tj x)) := by
  refine r_start (by decide +kernel) (Nat.le_of_ble_eq_true rfl) ?_
  intro p e s m below meth c hx hb hr hml hts hown hlk hP hK hST ls hl
  have hS : va_S (fun _ => False) s.heap s.heap [] := va_S.rf
  have hown : s.vm.findClass RJ0 = some m.cls := hown
  have hl : lv_has ls 2 [(0, .ref tjh0), (1, .int x)] := hl
  have hF : f_J0_charAt_5068eT tj x = (f_J1_charAt_3b067T tj.1 tj.2 x) := rfl
  have hok : (ok_J1_charAt_3b067T tj.1 tj.2 x ∧ (tj.1 < 2147483648 ∧ True)) := hok
  refine lv_aload_n hx hb dJ0_charAt_5068e_0 rfl (lv_at hl 0 rfl) ?_
  refine r_V (own := RJ0) (v := (some (.int (1 : Int32)))) (st1 := [.int (1 : Int32)]) (As := []) (rest := []) (c_J0_isLatin1_aae02T l G tjh0 tjh1 tj) ⟨hx, hb, hml, hown, hts⟩ g_J0_492 hdv_J0_isLatin1_aae02 hK hST hS hP [0, 1] rfl (k0 := 0) rfl rfl rfl ⟨Nat.le_of_ble_eq_true rfl, Nat.le_of_ble_eq_true rfl⟩ ⟨Nat.le_of_ble_eq_true rfl, Nat.le_of_ble_eq_true rfl⟩ rfl hl.1 rfl (Nat.le_of_ble_eq_true rfl) dJ0_charAt_5068e_1 rfl (fun b_1 => ?_)
  refine lv_if_eq (tgt := 16) hx hb dJ0_charAt_5068e_4 (by decide) (fun c_2 => ?_) (fun c_2 => ?_)
  · exact absurd c_2 (by decide)
  · refine lv_aload_n hx hb dJ0_charAt_5068e_7 rfl (lv_at hl 0 rfl) ?_
    refine va_get (D := G.1) (ci := 0) (v := .ref tjh1) (C := RJ0) (T := TJ0) (N := 4) hx hb hts uws_J0 hown hK hP 0 rfl rfl 0 (by decide) (hts _ u_414) (fun _ h9 => h9) rfl dJ0_charAt_5068e_8 ?_
    refine lv_iload_n hx hb dJ0_charAt_5068e_11 rfl (lv_at hl 1 rfl) ?_
    have k_3 := hok.1
    have hok := hok.2
    have k_4 := hok.1
    have hok := hok.2
    refine r_S (own := RJ0) (v := (some (.int (f_J1_charAt_3b067T tj.1 tj.2 x)))) (st1 := [.int (f_J1_charAt_3b067T tj.1 tj.2 x)]) (As := [.ref tjh1, .int x]) (rest := []) (c_J1_charAt_3b067T l G tjh1 tj.1 tj.2 x k_3 k_4) ⟨hx, hb, hml, hown, hts⟩ g_J0_495 hds_J1_charAt_3b067 hK hST hS hP [1] rfl ⟨Nat.le_of_ble_eq_true rfl, Nat.le_of_ble_eq_true rfl⟩ ⟨Nat.le_of_ble_eq_true rfl, Nat.le_of_ble_eq_true rfl⟩ rfl hl.1 rfl (Nat.le_of_ble_eq_true rfl) dJ0_charAt_5068e_12 rfl (fun b_5 => ?_)
    exact r_ret hx hb hr hlk b_5 (by rw [hF]) (by rw [hF]; exact (b_5 : narrow .char (.int (f_J1_charAt_3b067T tj.1 tj.2 x)) = .int (f_J1_charAt_3b067T tj.1 tj.2 x))) dJ0_charAt_5068e_15
def f_J0_getBytes_840e7T (tj : TxV) (ryn : Nat) (ry : Nat → Int32) (x : Int32) (y : Int32) : (Nat → Int32) := (if (0 : Int32) = y then (va_cpy tj.2 ry (0 : Int32).toNatClampNeg (x <<< (y &&& 31)).toNatClampNeg (nI tj.1).toNatClampNeg) else ry)
def ok_J0_getBytes_840e7T (tj : TxV) (ryn : Nat) (ry : Nat → Int32) (x : Int32) (y : Int32) : Prop := (if (0 : Int32) = y then (¬ (x <<< (y &&& 31)) < 0 ∧ (¬ (nI tj.1) < 0 ∧ ((0 : Int32).toNatClampNeg + (nI tj.1).toNatClampNeg ≤ tj.1 ∧ ((x <<< (y &&& 31)).toNatClampNeg + (nI tj.1).toNatClampNeg ≤ ryn ∧ ((∀ i, i < (nI tj.1).toNatClampNeg → fits .byte (.int (tj.2 ((0 : Int32).toNatClampNeg + i))) = true) ∧ True))))) else False)
set_option maxHeartbeats 4000000 in
set_option maxRecDepth 100000 in
theorem c_J0_getBytes_840e7T (l : Launch) (G : GG) (tjh0 : Nat) (tjh1 : Nat) (ryh : Nat) (sz : Nat) (tj : TxV) (ryn : Nat) (ry : Nat → Int32) (x : Int32) (y : Int32) (hok : ok_J0_getBytes_840e7T tj ryn ry x y) (hyp_ryn : ryn < 2147483648) : wMet l yJ0_getBytes_840e7 cJ0_getBytes_840e7 4 none 3 0 0 G (fl [[(tjh0, .inr (0, [.ref tjh1, .int (0 : Int32), .int (0 : Int32), .int (0 : Int32)]))], [(tjh1, .inl (G.2.1 2, tj.1, .inl tj.2))], [(ryh, .inl (G.2.1 2, ryn, .inl ry))]]) [.ref tjh0, .ref ryh, .int x, .int y] sz (fun u : (Nat → Int32) => none) (fun u : (Nat → Int32) => u = f_J0_getBytes_840e7T tj ryn ry x y) (fun u : (Nat → Int32) => fl [[(tjh0, .inr (0, [.ref tjh1, .int (0 : Int32), .int (0 : Int32), .int (0 : Int32)]))], [(tjh1, .inl (G.2.1 2, tj.1, .inl tj.2))], [(ryh, .inl (G.2.1 2, ryn, .inl u))]]) := by
  refine w_start (by decide +kernel) (Nat.le_of_ble_eq_true rfl) ?_
  intro p e s m below meth c A hx hb hr hml hts hown hlk hin hP hD hA hK hST ls hl
  have hS : va_S A s.heap s.heap [] := va_S.rf
  have hown : s.vm.findClass RJ0 = some m.cls := hown
  have hl : lv_has ls 4 [(0, .ref tjh0), (1, .ref ryh), (2, .int x), (3, .int y)] := hl
  have hF : f_J0_getBytes_840e7T tj ryn ry x y = (if (0 : Int32) = y then (va_cpy tj.2 ry (0 : Int32).toNatClampNeg (x <<< (y &&& 31)).toNatClampNeg (nI tj.1).toNatClampNeg) else ry) := rfl
  have hok : (if (0 : Int32) = y then (¬ (x <<< (y &&& 31)) < 0 ∧ (¬ (nI tj.1) < 0 ∧ ((0 : Int32).toNatClampNeg + (nI tj.1).toNatClampNeg ≤ tj.1 ∧ ((x <<< (y &&& 31)).toNatClampNeg + (nI tj.1).toNatClampNeg ≤ ryn ∧ ((∀ i, i < (nI tj.1).toNatClampNeg → fits .byte (.int (tj.2 ((0 : Int32).toNatClampNeg + i))) = true) ∧ True))))) else False) := hok
  refine lv_aload_n hx hb dJ0_getBytes_840e7_0 rfl (lv_at hl 0 rfl) ?_
  refine r_V (own := RJ0) (v := (some (.int (0 : Int32)))) (st1 := [.int (0 : Int32)]) (As := []) (rest := []) (c_J0_coder_7d493T l G tjh0 tjh1 tj) ⟨hx, hb, hml, hown, hts⟩ g_J0_335 hdv_J0_coder_7d493 hK hST hS hP [0, 1] rfl (k0 := 0) rfl rfl rfl ⟨Nat.le_of_ble_eq_true rfl, Nat.le_of_ble_eq_true rfl⟩ ⟨Nat.le_of_ble_eq_true rfl, Nat.le_of_ble_eq_true rfl⟩ rfl hl.1 rfl (Nat.le_of_ble_eq_true rfl) dJ0_getBytes_840e7_1 rfl (fun b_1 => ?_)
  refine lv_iload_n hx hb dJ0_getBytes_840e7_4 rfl (lv_at hl 3 rfl) ?_
  refine lv_icmp_ne (tgt := 28) hx hb dJ0_getBytes_840e7_5 (by decide) (fun c_2 => ?_) (fun c_2 => ?_)
  · have hF := hF.trans (if_neg c_2)
    have hok := Eq.mp (if_neg c_2) hok
    exact hok.elim
  · have hF := hF.trans (if_pos c_2)
    have hok := Eq.mp (if_pos c_2) hok
    refine lv_aload_n hx hb dJ0_getBytes_840e7_8 rfl (lv_at hl 0 rfl) ?_
    refine va_get (D := G.1) (ci := 0) (v := .ref tjh1) (C := RJ0) (T := TJ0) (N := 4) hx hb hts uws_J0 hown hK hP 0 rfl rfl 0 (by decide) (hts _ u_414) (fun _ h9 => h9) rfl dJ0_getBytes_840e7_9 ?_
    refine lv_iconst (v := (0 : Int32)) hx hb dJ0_getBytes_840e7_12 (by decide) ?_
    refine lv_aload_n hx hb dJ0_getBytes_840e7_13 rfl (lv_at hl 1 rfl) ?_
    refine lv_iload_n hx hb dJ0_getBytes_840e7_14 rfl (lv_at hl 2 rfl) ?_
    refine lv_iload_n hx hb dJ0_getBytes_840e7_15 rfl (lv_at hl 3 rfl) ?_
    refine lv_ishl hx hb dJ0_getBytes_840e7_16 ?_
    refine lv_aload_n hx hb dJ0_getBytes_840e7_17 rfl (lv_at hl 0 rfl) ?_
    refine va_get (D := G.1) (ci := 0) (v := .ref tjh1) (C := RJ0) (T := TJ0) (N := 4) hx hb hts uws_J0 hown hK hP 0 rfl rfl 0 (by decide) (hts _ u_414) (fun _ h9 => h9) rfl dJ0_getBytes_840e7_18 ?_
    refine va_alen (v := (nI tj.1)) hx hb hK hP 1 2 rfl rfl rfl dJ0_getBytes_840e7_21 ?_
    have h_3 := hok.1
    have hok := hok.2
    have h_4 := hok.1
    have hok := hok.2
    have h_5 := hok.1
    have hok := hok.2
    have h_6 := hok.1
    have hok := hok.2
    have h_7 := hok.1
    have hok := hok.2
    refine va_copyi (ty := .byte) hx hb (hml.trans hl.1.symm) hown (hts _ u_317) (hts _ u_244) (hts _ u_243) (hts _ u_51) hK hP hD hS 1 2 2 2 rfl rfl rfl rfl rfl (by decide) h_3 h_4 h_5 h_6 h_7 (Nat.le_of_ble_eq_true rfl) (Nat.le_of_ble_eq_true rfl) dJ0_getBytes_840e7_22 (fun H locs hP hD hS => ?_)
    have hP : va_P G.1 vwCl (fl [[(tjh0, .inr (0, [.ref tjh1, .int (0 : Int32), .int (0 : Int32), .int (0 : Int32)]))], [(tjh1, .inl (G.2.1 2, tj.1, .inl tj.2))], [(ryh, .inl (G.2.1 2, ryn, .inl (va_cpy tj.2 ry (0 : Int32).toNatClampNeg (x <<< (y &&& 31)).toNatClampNeg (nI tj.1).toNatClampNeg)))]]) H := hP
    have hD : va_D A (fl [[(tjh0, .inr (0, [.ref tjh1, .int (0 : Int32), .int (0 : Int32), .int (0 : Int32)]))], [(tjh1, .inl (G.2.1 2, tj.1, .inl tj.2))], [(ryh, .inl (G.2.1 2, ryn, .inl (va_cpy tj.2 ry (0 : Int32).toNatClampNeg (x <<< (y &&& 31)).toNatClampNeg (nI tj.1).toNatClampNeg)))]]) := hD
    refine W.eq (g2 := F0 m 25 ls []) rfl ?_
    refine lv_goto (tgt := 43) hx hb dJ0_getBytes_840e7_25 (by decide) ?_
    exact w_retV (u := (va_cpy tj.2 ry (0 : Int32).toNatClampNeg (x <<< (y &&& 31)).toNatClampNeg (nI tj.1).toNatClampNeg)) hx hb hr hlk hS rfl hF.symm hP hD (Nat.le_of_ble_eq_true rfl) (Nat.le_of_ble_eq_true rfl) dJ0_getBytes_840e7_43
def f_J5_inflateIfNeededFor_a7421T (sb : SbV) (tj : TxV) : Unit := ()
set_option maxHeartbeats 4000000 in
set_option maxRecDepth 100000 in
theorem c_J5_inflateIfNeededFor_a7421T (l : Launch) (G : GG) (sbh0 : Nat) (sbh1 : Nat) (tjh0 : Nat) (tjh1 : Nat) (sb : SbV) (tj : TxV) : rMet l yJ5_inflateIfNeededFor_a7421 cJ5_inflateIfNeededFor_a7421 2 none 2 G (fl [[(sbh0, .inr (1, [.ref sbh1, .int (0 : Int32), .int sb.2.2.1, .int sb.2.2.2]))], [(sbh1, .inl (G.2.1 2, sb.1, .inl sb.2.1))], [(tjh0, .inr (0, [.ref tjh1, .int (0 : Int32), .int (0 : Int32), .int (0 : Int32)]))], [(tjh1, .inl (G.2.1 2, tj.1, .inl tj.2))]]) [.ref sbh0, .ref tjh0] (none) (True) := by
  refine r_start (by decide +kernel) (Nat.le_of_ble_eq_true rfl) ?_
  intro p e s m below meth c hx hb hr hml hts hown hlk hP hK hST ls hl
  have hS : va_S (fun _ => False) s.heap s.heap [] := va_S.rf
  have hown : s.vm.findClass RJ5 = some m.cls := hown
  have hl : lv_has ls 2 [(0, .ref sbh0), (1, .ref tjh0)] := hl
  have hF : f_J5_inflateIfNeededFor_a7421T sb tj = () := rfl
  refine va_gets (v := .int (1 : Int32)) hx hb hST.compact hS hown (hts _ u_176) (fun _ h9 => h9) dJ5_inflateIfNeededFor_a7421_0 ?_
  refine lv_if_eq (tgt := 21) hx hb dJ5_inflateIfNeededFor_a7421_3 (by decide) (fun c_1 => ?_) (fun c_1 => ?_)
  · exact absurd c_1 (by decide)
  · refine lv_aload_n hx hb dJ5_inflateIfNeededFor_a7421_6 rfl (lv_at hl 0 rfl) ?_
    refine va_get (D := G.1) (ci := 1) (v := .int (0 : Int32)) (C := RJ4) (T := TJ4) (N := 4) hx hb hts uws_J4 hown hK hP 0 rfl rfl 1 (by decide) (hts _ u_186) (fun _ h9 => h9) rfl dJ5_inflateIfNeededFor_a7421_7 ?_
    refine lv_aload_n hx hb dJ5_inflateIfNeededFor_a7421_10 rfl (lv_at hl 1 rfl) ?_
    refine r_V (own := RJ5) (v := (some (.int (0 : Int32)))) (st1 := [.int (0 : Int32), .int (0 : Int32)]) (As := []) (rest := [.int (0 : Int32)]) (c_J0_coder_7d493T l G tjh0 tjh1 tj) ⟨hx, hb, hml, hown, hts⟩ g_J5_40 hdv_J0_coder_7d493 hK hST hS hP [2, 3] rfl (k0 := 0) rfl rfl rfl ⟨Nat.le_of_ble_eq_true rfl, Nat.le_of_ble_eq_true rfl⟩ ⟨Nat.le_of_ble_eq_true rfl, Nat.le_of_ble_eq_true rfl⟩ rfl hl.1 rfl (Nat.le_of_ble_eq_true rfl) dJ5_inflateIfNeededFor_a7421_11 rfl (fun b_2 => ?_)
    refine lv_icmp_eq (tgt := 21) hx hb dJ5_inflateIfNeededFor_a7421_14 (by decide) (fun c_3 => ?_) (fun c_3 => ?_)
    · exact r_retV hx hb hr hlk trivial dJ5_inflateIfNeededFor_a7421_21
    · exact absurd c_3 (by decide)
def f_J5_putStringAt_47b60T (sb : SbV) (x : Int32) (tj : TxV) : SbV := (let uu_5 : (Nat → Int32) := (f_J0_getBytes_840e7T tj sb.1 sb.2.1 x (0 : Int32)); (sb.1, uu_5, sb.2.2.1, sb.2.2.2))
def ok_J5_putStringAt_47b60T (sb : SbV) (x : Int32) (tj : TxV) : Prop := (ok_J0_getBytes_840e7T tj sb.1 sb.2.1 x (0 : Int32) ∧ (sb.1 < 2147483648 ∧ True))
set_option maxHeartbeats 4000000 in
set_option maxRecDepth 100000 in
theorem c_J5_putStringAt_47b60T (l : Launch) (G : GG) (sbh0 : Nat) (sbh1 : Nat) (tjh0 : Nat) (tjh1 : Nat) (sz : Nat) (sb : SbV) (x : Int32) (tj : TxV) (hok : ok_J5_putStringAt_47b60T sb x tj) : wMet l yJ5_putStringAt_47b60 cJ5_putStringAt_47b60 3 none 4 0 0 G (fl [[(sbh0, .inr (1, [.ref sbh1, .int (0 : Int32), .int sb.2.2.1, .int sb.2.2.2]))], [(sbh1, .inl (G.2.1 2, sb.1, .inl sb.2.1))], [(tjh0, .inr (0, [.ref tjh1, .int (0 : Int32), .int (0 : Int32), .int (0 : Int32)]))], [(tjh1, .inl (G.2.1 2, tj.1, .inl tj.2))]]) [.ref sbh0, .int x, .ref tjh0] sz (fun u : Nat × SbV => none) (fun u : Nat × SbV => u.2 = f_J5_putStringAt_47b60T sb x tj) (fun u : Nat × SbV => fl [[(sbh0, .inr (1, [.ref u.1, .int (0 : Int32), .int u.2.2.2.1, .int u.2.2.2.2]))], [(u.1, .inl (G.2.1 2, u.2.1, .inl u.2.2.1))], [(tjh0, .inr (0, [.ref tjh1, .int (0 : Int32), .int (0 : Int32), .int (0 : Int32)]))], [(tjh1, .inl (G.2.1 2, tj.1, .inl tj.2))]]) := by
  refine w_start (by decide +kernel) (Nat.le_of_ble_eq_true rfl) ?_
  intro p e s m below meth c A hx hb hr hml hts hown hlk hin hP hD hA hK hST ls hl
  have hS : va_S A s.heap s.heap [] := va_S.rf
  have hown : s.vm.findClass RJ5 = some m.cls := hown
  have hl : lv_has ls 3 [(0, .ref sbh0), (1, .int x), (2, .ref tjh0)] := hl
  have hF : f_J5_putStringAt_47b60T sb x tj = (let uu_5 : (Nat → Int32) := (f_J0_getBytes_840e7T tj sb.1 sb.2.1 x (0 : Int32)); (sb.1, uu_5, sb.2.2.1, sb.2.2.2)) := rfl
  have hok : (ok_J0_getBytes_840e7T tj sb.1 sb.2.1 x (0 : Int32) ∧ (sb.1 < 2147483648 ∧ True)) := hok
  refine lv_aload_n hx hb dJ5_putStringAt_47b60_0 rfl (lv_at hl 0 rfl) ?_
  refine lv_aload_n hx hb dJ5_putStringAt_47b60_1 rfl (lv_at hl 2 rfl) ?_
  refine r_P (own := RJ5) (v := none) (st1 := []) (As := [.ref tjh0]) (rest := []) (c_J5_inflateIfNeededFor_a7421T l G sbh0 sbh1 tjh0 tjh1 sb tj) ⟨hx, hb, hml, hown, hts⟩ u_289 u_292 u_29 u_291 gP_J5_397 u_1595 rfl hds_J5_inflateIfNeededFor_a7421 hK hST hS hP [0, 1, 2, 3] rfl (va_recv hK hP (ci := 1) (q0 := 0) rfl rfl) ⟨Nat.le_of_ble_eq_true rfl, Nat.le_of_ble_eq_true rfl⟩ ⟨Nat.le_of_ble_eq_true rfl, Nat.le_of_ble_eq_true rfl⟩ rfl hl.1 rfl (Nat.le_of_ble_eq_true rfl) dJ5_putStringAt_47b60_2 rfl (fun b_1 => ?_)
  refine lv_aload_n hx hb dJ5_putStringAt_47b60_5 rfl (lv_at hl 2 rfl) ?_
  refine lv_aload_n hx hb dJ5_putStringAt_47b60_6 rfl (lv_at hl 0 rfl) ?_
  refine va_get (D := G.1) (ci := 1) (v := .ref sbh1) (C := RJ4) (T := TJ4) (N := 4) hx hb hts uws_J4 hown hK hP 0 rfl rfl 0 (by decide) (hts _ u_185) (fun _ h9 => h9) rfl dJ5_putStringAt_47b60_7 ?_
  refine lv_iload_n hx hb dJ5_putStringAt_47b60_10 rfl (lv_at hl 1 rfl) ?_
  refine lv_aload_n hx hb dJ5_putStringAt_47b60_11 rfl (lv_at hl 0 rfl) ?_
  refine va_get (D := G.1) (ci := 1) (v := .int (0 : Int32)) (C := RJ4) (T := TJ4) (N := 4) hx hb hts uws_J4 hown hK hP 0 rfl rfl 1 (by decide) (hts _ u_186) (fun _ h9 => h9) rfl dJ5_putStringAt_47b60_12 ?_
  have k_2 := hok.1
  have hok := hok.2
  have k_3 := hok.1
  have hok := hok.2
  refine w_V (own := RJ5) (cs := [[(tjh0, .inr (0, [.ref tjh1, .int (0 : Int32), .int (0 : Int32), .int (0 : Int32)]))], [(tjh1, .inl (G.2.1 2, tj.1, .inl tj.2))], [(sbh1, .inl (G.2.1 2, sb.1, .inl sb.2.1))]]) (rs := [[(sbh0, .inr (1, [.ref sbh1, .int (0 : Int32), .int sb.2.2.1, .int sb.2.2.2]))]]) (As := [.ref sbh1, .int x, .int (0 : Int32)]) (rest := []) (c_J0_getBytes_840e7T l G tjh0 tjh1 sbh1 s.heap.size tj sb.1 sb.2.1 x (0 : Int32) k_2 k_3) ⟨hx, hb, hml, hown, hts⟩ g_J5_399 hdv_J0_getBytes_840e7 hK hST hS hP hD hA [2, 3, 1] [0] rfl rfl rfl (k0 := 0) rfl rfl rfl ⟨Nat.le_of_ble_eq_true rfl, Nat.le_of_ble_eq_true rfl⟩ ⟨Nat.le_of_ble_eq_true rfl, Nat.le_of_ble_eq_true rfl⟩ rfl hl.1 rfl (Nat.le_of_ble_eq_true rfl) dJ5_putStringAt_47b60_15 (fun uu_5 H locs huu hP hD hS => ?_)
  have euu_5 := huu
  have hP : va_P G.1 vwCl (fl [[(tjh0, .inr (0, [.ref tjh1, .int (0 : Int32), .int (0 : Int32), .int (0 : Int32)]))], [(tjh1, .inl (G.2.1 2, tj.1, .inl tj.2))], [(sbh1, .inl (G.2.1 2, sb.1, .inl uu_5))], [(sbh0, .inr (1, [.ref sbh1, .int (0 : Int32), .int sb.2.2.1, .int sb.2.2.2]))]]) H := hP
  have hD : va_D A (fl [[(tjh0, .inr (0, [.ref tjh1, .int (0 : Int32), .int (0 : Int32), .int (0 : Int32)]))], [(tjh1, .inl (G.2.1 2, tj.1, .inl tj.2))], [(sbh1, .inl (G.2.1 2, sb.1, .inl uu_5))], [(sbh0, .inr (1, [.ref sbh1, .int (0 : Int32), .int sb.2.2.1, .int sb.2.2.2]))]]) := hD
  refine W.eq (g2 := F0 m 18 ls []) rfl ?_
  have hF : f_J5_putStringAt_47b60T sb x tj = (sb.1, uu_5, sb.2.2.1, sb.2.2.2) := by subst euu_5; exact hF
  have hP := fl_sub (cs := [[(sbh0, .inr (1, [.ref sbh1, .int (0 : Int32), .int sb.2.2.1, .int sb.2.2.2]))], [(sbh1, .inl (G.2.1 2, sb.1, .inl uu_5))], [(tjh0, .inr (0, [.ref tjh1, .int (0 : Int32), .int (0 : Int32), .int (0 : Int32)]))], [(tjh1, .inl (G.2.1 2, tj.1, .inl tj.2))]]) [3, 2, 0, 1] rfl hP
  have hD := fl_subD (cs := [[(sbh0, .inr (1, [.ref sbh1, .int (0 : Int32), .int sb.2.2.1, .int sb.2.2.2]))], [(sbh1, .inl (G.2.1 2, sb.1, .inl uu_5))], [(tjh0, .inr (0, [.ref tjh1, .int (0 : Int32), .int (0 : Int32), .int (0 : Int32)]))], [(tjh1, .inl (G.2.1 2, tj.1, .inl tj.2))]]) [3, 2, 0, 1] rfl rfl hD
  exact w_retV (u := (sbh1, (sb.1, uu_5, sb.2.2.1, sb.2.2.2))) hx hb hr hlk hS rfl hF.symm hP hD (Nat.le_of_ble_eq_true rfl) (Nat.le_of_ble_eq_true rfl) dJ5_putStringAt_47b60_18
def f_J5_append_cf1ceT (sb : SbV) (tj : TxV) : SbV := (let uu_4 : SbV := (f_J5_ensureCapacityInternal_d00df sb (sb.2.2.2 + (f_J0_length_8abf5T tj))); (let uu_7 : SbV := (f_J5_putStringAt_47b60T uu_4 uu_4.2.2.2 tj); (uu_7.1, uu_7.2.1, uu_7.2.2.1, (uu_7.2.2.2 + (f_J0_length_8abf5T tj)))))
def ok_J5_append_cf1ceT (sb : SbV) (tj : TxV) : Prop := (ok_J5_ensureCapacityInternal_d00df sb (sb.2.2.2 + (f_J0_length_8abf5T tj)) ∧ (let uu_4 : SbV := (f_J5_ensureCapacityInternal_d00df sb (sb.2.2.2 + (f_J0_length_8abf5T tj))); (ok_J5_putStringAt_47b60T uu_4 uu_4.2.2.2 tj ∧ True)))
set_option maxHeartbeats 4000000 in
set_option maxRecDepth 100000 in
theorem c_J5_append_cf1ceT (l : Launch) (G : GG) (sbh0 : Nat) (sbh1 : Nat) (tjh0 : Nat) (tjh1 : Nat) (sz : Nat) (sb : SbV) (tj : TxV) (hok : ok_J5_append_cf1ceT sb tj) : wMet l yJ5_append_cf1ce cJ5_append_cf1ce 3 (some (.object "java/lang/AbstractStringBuilder")) 5 1 200 G (fl [[(sbh0, .inr (1, [.ref sbh1, .int (0 : Int32), .int sb.2.2.1, .int sb.2.2.2]))], [(sbh1, .inl (G.2.1 2, sb.1, .inl sb.2.1))], [(tjh0, .inr (0, [.ref tjh1, .int (0 : Int32), .int (0 : Int32), .int (0 : Int32)]))], [(tjh1, .inl (G.2.1 2, tj.1, .inl tj.2))]]) [.ref sbh0, .ref tjh0] sz (fun u : Nat × SbV => some (.ref sbh0)) (fun u : Nat × SbV => u.2 = f_J5_append_cf1ceT sb tj) (fun u : Nat × SbV => fl [[(sbh0, .inr (1, [.ref u.1, .int (0 : Int32), .int u.2.2.2.1, .int u.2.2.2.2]))], [(u.1, .inl (G.2.1 2, u.2.1, .inl u.2.2.1))], [(tjh0, .inr (0, [.ref tjh1, .int (0 : Int32), .int (0 : Int32), .int (0 : Int32)]))], [(tjh1, .inl (G.2.1 2, tj.1, .inl tj.2))]]) := by
  refine w_start (by decide +kernel) (Nat.le_of_ble_eq_true rfl) ?_
  intro p e s m below meth c A hx hb hr hml hts hown hlk hin hP hD hA hK hST ls hl
  have hS : va_S A s.heap s.heap [] := va_S.rf
  have hown : s.vm.findClass RJ5 = some m.cls := hown
  have hl : lv_has ls 3 [(0, .ref sbh0), (1, .ref tjh0)] := hl
  have hF : f_J5_append_cf1ceT sb tj = (let uu_4 : SbV := (f_J5_ensureCapacityInternal_d00df sb (sb.2.2.2 + (f_J0_length_8abf5T tj))); (let uu_7 : SbV := (f_J5_putStringAt_47b60T uu_4 uu_4.2.2.2 tj); (uu_7.1, uu_7.2.1, uu_7.2.2.1, (uu_7.2.2.2 + (f_J0_length_8abf5T tj))))) := rfl
  have hok : (ok_J5_ensureCapacityInternal_d00df sb (sb.2.2.2 + (f_J0_length_8abf5T tj)) ∧ (let uu_4 : SbV := (f_J5_ensureCapacityInternal_d00df sb (sb.2.2.2 + (f_J0_length_8abf5T tj))); (ok_J5_putStringAt_47b60T uu_4 uu_4.2.2.2 tj ∧ True))) := hok
  refine lv_aload_n hx hb dJ5_append_cf1ce_0 rfl (lv_at hl 1 rfl) ?_
  refine lv_ifnonnull (tgt := 9) hx hb dJ5_append_cf1ce_1 (by decide) ?_
  refine lv_aload_n hx hb dJ5_append_cf1ce_9 rfl (lv_at hl 1 rfl) ?_
  refine r_V (own := RJ5) (v := (some (.int (f_J0_length_8abf5T tj)))) (st1 := [.int (f_J0_length_8abf5T tj)]) (As := []) (rest := []) (c_J0_length_8abf5T l G tjh0 tjh1 tj) ⟨hx, hb, hml, hown, hts⟩ g_J5_32 hdv_J0_length_8abf5 hK hST hS hP [2, 3] rfl (k0 := 0) rfl rfl rfl ⟨Nat.le_of_ble_eq_true rfl, Nat.le_of_ble_eq_true rfl⟩ ⟨Nat.le_of_ble_eq_true rfl, Nat.le_of_ble_eq_true rfl⟩ rfl hl.1 rfl (Nat.le_of_ble_eq_true rfl) dJ5_append_cf1ce_10 rfl (fun b_1 => ?_)
  refine lv_istore_n (lv' := [(2, .int (f_J0_length_8abf5T tj)), (0, .ref sbh0), (1, .ref tjh0)]) hx hb dJ5_append_cf1ce_13 rfl hl (by decide) rfl (fun ls hl => ?_)
  refine lv_aload_n hx hb dJ5_append_cf1ce_14 rfl (lv_at hl 1 rfl) ?_
  refine lv_aload_n hx hb dJ5_append_cf1ce_15 rfl (lv_at hl 1 rfl) ?_
  refine va_get (D := G.1) (ci := 1) (v := .int sb.2.2.2) (C := RJ4) (T := TJ4) (N := 4) hx hb hts uws_J4 hown hK hP 0 rfl rfl 3 (by decide) (hts _ u_189) (fun _ h9 => h9) rfl dJ5_append_cf1ce_16 ?_
  refine lv_iload_n hx hb dJ5_append_cf1ce_19 rfl (lv_at hl 0 rfl) ?_
  refine lv_iadd hx hb dJ5_append_cf1ce_20 ?_
  have k_2 := hok.1
  have hok := hok.2
  refine w_P (own := RJ5) (cs := [[(sbh0, .inr (1, [.ref sbh1, .int (0 : Int32), .int sb.2.2.1, .int sb.2.2.2]))], [(sbh1, .inl (G.2.1 2, sb.1, .inl sb.2.1))]]) (rs := [[(tjh0, .inr (0, [.ref tjh1, .int (0 : Int32), .int (0 : Int32), .int (0 : Int32)]))], [(tjh1, .inl (G.2.1 2, tj.1, .inl tj.2))]]) (As := [.int (sb.2.2.2 + (f_J0_length_8abf5T tj))]) (rest := []) (c_J5_ensureCapacityInternal_d00df l G sbh0 sbh1 s.heap.size sb (sb.2.2.2 + (f_J0_length_8abf5T tj)) k_2) ⟨hx, hb, hml, hown, hts⟩ u_210 u_213 u_29 u_212 gP_J5_100 u_1592 rfl hds_J5_ensureCapacityInternal_d00df hK hST hS hP hD hA [0, 1] [2, 3] rfl rfl rfl (va_recv hK hP (ci := 1) (q0 := 0) rfl rfl) ⟨Nat.le_of_ble_eq_true rfl, Nat.le_of_ble_eq_true rfl⟩ ⟨Nat.le_of_ble_eq_true rfl, Nat.le_of_ble_eq_true rfl⟩ rfl hl.1 rfl (Nat.le_of_ble_eq_true rfl) dJ5_append_cf1ce_21 (fun uu_4 H locs huu hP hD hS => ?_)
  obtain ⟨quu_4, uu_4⟩ := uu_4
  have euu_4 : uu_4 = (f_J5_ensureCapacityInternal_d00df sb (sb.2.2.2 + (f_J0_length_8abf5T tj))) := huu
  have hP : va_P G.1 vwCl (fl [[(sbh0, .inr (1, [.ref quu_4, .int (0 : Int32), .int uu_4.2.2.1, .int uu_4.2.2.2]))], [(quu_4, .inl (G.2.1 2, uu_4.1, .inl uu_4.2.1))], [(tjh0, .inr (0, [.ref tjh1, .int (0 : Int32), .int (0 : Int32), .int (0 : Int32)]))], [(tjh1, .inl (G.2.1 2, tj.1, .inl tj.2))]]) H := hP
  have hD : va_D A (fl [[(sbh0, .inr (1, [.ref quu_4, .int (0 : Int32), .int uu_4.2.2.1, .int uu_4.2.2.2]))], [(quu_4, .inl (G.2.1 2, uu_4.1, .inl uu_4.2.1))], [(tjh0, .inr (0, [.ref tjh1, .int (0 : Int32), .int (0 : Int32), .int (0 : Int32)]))], [(tjh1, .inl (G.2.1 2, tj.1, .inl tj.2))]]) := hD
  refine W.eq (g2 := F0 m 24 ls []) rfl ?_
  have hF : f_J5_append_cf1ceT sb tj = (let uu_7 : SbV := (f_J5_putStringAt_47b60T uu_4 uu_4.2.2.2 tj); (uu_7.1, uu_7.2.1, uu_7.2.2.1, (uu_7.2.2.2 + (f_J0_length_8abf5T tj)))) := by subst euu_4; exact hF
  have hok : (ok_J5_putStringAt_47b60T uu_4 uu_4.2.2.2 tj ∧ True) := by subst euu_4; exact hok
  refine lv_aload_n hx hb dJ5_append_cf1ce_24 rfl (lv_at hl 1 rfl) ?_
  refine lv_aload_n hx hb dJ5_append_cf1ce_25 rfl (lv_at hl 1 rfl) ?_
  refine va_get (D := G.1) (ci := 1) (v := .int uu_4.2.2.2) (C := RJ4) (T := TJ4) (N := 4) hx hb hts uws_J4 hown hK hP 0 rfl rfl 3 (by decide) (hts _ u_189) (fun _ h9 => h9) rfl dJ5_append_cf1ce_26 ?_
  refine lv_aload_n hx hb dJ5_append_cf1ce_29 rfl (lv_at hl 2 rfl) ?_
  have k_5 := hok.1
  have hok := hok.2
  refine w_P (own := RJ5) (cs := [[(sbh0, .inr (1, [.ref quu_4, .int (0 : Int32), .int uu_4.2.2.1, .int uu_4.2.2.2]))], [(quu_4, .inl (G.2.1 2, uu_4.1, .inl uu_4.2.1))], [(tjh0, .inr (0, [.ref tjh1, .int (0 : Int32), .int (0 : Int32), .int (0 : Int32)]))], [(tjh1, .inl (G.2.1 2, tj.1, .inl tj.2))]]) (rs := []) (As := [.int uu_4.2.2.2, .ref tjh0]) (rest := []) (c_J5_putStringAt_47b60T l G sbh0 quu_4 tjh0 tjh1 H.size uu_4 uu_4.2.2.2 tj k_5) ⟨hx, hb, hml, hown, hts⟩ u_285 u_288 u_29 u_287 gP_J5_208 u_1594 rfl hds_J5_putStringAt_47b60 hK hST hS hP hD hA [0, 1, 2, 3] [] rfl rfl rfl (va_recv hK hP (ci := 1) (q0 := 0) rfl rfl) ⟨Nat.le_of_ble_eq_true rfl, Nat.le_of_ble_eq_true rfl⟩ ⟨Nat.le_of_ble_eq_true rfl, Nat.le_of_ble_eq_true rfl⟩ rfl hl.1 rfl (Nat.le_of_ble_eq_true rfl) dJ5_append_cf1ce_30 (fun uu_7 H locs huu hP hD hS => ?_)
  obtain ⟨quu_7, uu_7⟩ := uu_7
  have euu_7 : uu_7 = (f_J5_putStringAt_47b60T uu_4 uu_4.2.2.2 tj) := huu
  have hP : va_P G.1 vwCl (fl [[(sbh0, .inr (1, [.ref quu_7, .int (0 : Int32), .int uu_7.2.2.1, .int uu_7.2.2.2]))], [(quu_7, .inl (G.2.1 2, uu_7.1, .inl uu_7.2.1))], [(tjh0, .inr (0, [.ref tjh1, .int (0 : Int32), .int (0 : Int32), .int (0 : Int32)]))], [(tjh1, .inl (G.2.1 2, tj.1, .inl tj.2))]]) H := hP
  have hD : va_D A (fl [[(sbh0, .inr (1, [.ref quu_7, .int (0 : Int32), .int uu_7.2.2.1, .int uu_7.2.2.2]))], [(quu_7, .inl (G.2.1 2, uu_7.1, .inl uu_7.2.1))], [(tjh0, .inr (0, [.ref tjh1, .int (0 : Int32), .int (0 : Int32), .int (0 : Int32)]))], [(tjh1, .inl (G.2.1 2, tj.1, .inl tj.2))]]) := hD
  refine W.eq (g2 := F0 m 33 ls []) rfl ?_
  have hF : f_J5_append_cf1ceT sb tj = (uu_7.1, uu_7.2.1, uu_7.2.2.1, (uu_7.2.2.2 + (f_J0_length_8abf5T tj))) := by subst euu_7; exact hF
  refine lv_aload_n hx hb dJ5_append_cf1ce_33 rfl (lv_at hl 1 rfl) ?_
  refine lv_dup hx hb dJ5_append_cf1ce_34 rfl ?_
  refine va_get (D := G.1) (ci := 1) (v := .int uu_7.2.2.2) (C := RJ4) (T := TJ4) (N := 4) hx hb hts uws_J4 hown hK hP 0 rfl rfl 3 (by decide) (hts _ u_189) (fun _ h9 => h9) rfl dJ5_append_cf1ce_35 ?_
  refine lv_iload_n hx hb dJ5_append_cf1ce_38 rfl (lv_at hl 0 rfl) ?_
  refine lv_iadd hx hb dJ5_append_cf1ce_39 ?_
  refine va_put (D := G.1) (ci := 1) (v := .int (uu_7.2.2.2 + (f_J0_length_8abf5T tj))) (ty := .int) (C := RJ4) (T := TJ4) (N := 4) hx hb hts uws_J4 tyJ4 tyJ4_ok nmJ4 hown hK hP hD hS 0 rfl rfl 3 (by decide) (hts _ u_189) (fun _ h9 => h9) rfl (by decide +kernel) rfl rfl (Nat.le_of_ble_eq_true rfl) dJ5_append_cf1ce_40 (fun H locs hP hD hS => ?_)
  have hP : va_P G.1 vwCl (fl [[(sbh0, .inr (1, [.ref quu_7, .int (0 : Int32), .int uu_7.2.2.1, .int (uu_7.2.2.2 + (f_J0_length_8abf5T tj))]))], [(quu_7, .inl (G.2.1 2, uu_7.1, .inl uu_7.2.1))], [(tjh0, .inr (0, [.ref tjh1, .int (0 : Int32), .int (0 : Int32), .int (0 : Int32)]))], [(tjh1, .inl (G.2.1 2, tj.1, .inl tj.2))]]) H := hP
  have hD : va_D A (fl [[(sbh0, .inr (1, [.ref quu_7, .int (0 : Int32), .int uu_7.2.2.1, .int (uu_7.2.2.2 + (f_J0_length_8abf5T tj))]))], [(quu_7, .inl (G.2.1 2, uu_7.1, .inl uu_7.2.1))], [(tjh0, .inr (0, [.ref tjh1, .int (0 : Int32), .int (0 : Int32), .int (0 : Int32)]))], [(tjh1, .inl (G.2.1 2, tj.1, .inl tj.2))]]) := hD
  refine lv_aload_n hx hb dJ5_append_cf1ce_43 rfl (lv_at hl 1 rfl) ?_
  exact w_retA (u := (quu_7, (uu_7.1, uu_7.2.1, uu_7.2.2.1, (uu_7.2.2.2 + (f_J0_length_8abf5T tj))))) hx hb hr hlk (Or.inl ⟨_, rfl⟩) (Or.inr ⟨_, rfl⟩) hS rfl hF.symm hP hD (Nat.le_of_ble_eq_true rfl) (Nat.le_of_ble_eq_true rfl) dJ5_append_cf1ce_44
def f_J4_append_15ec4T (sb : SbV) (tj : TxV) : SbV := (let uu_3 : SbV := (f_J5_append_cf1ceT sb tj); uu_3)
def ok_J4_append_15ec4T (sb : SbV) (tj : TxV) : Prop := (ok_J5_append_cf1ceT sb tj ∧ True)
set_option maxHeartbeats 4000000 in
set_option maxRecDepth 100000 in
theorem c_J4_append_15ec4T (l : Launch) (G : GG) (sbh0 : Nat) (sbh1 : Nat) (tjh0 : Nat) (tjh1 : Nat) (sz : Nat) (sb : SbV) (tj : TxV) (hok : ok_J4_append_15ec4T sb tj) : wMet l yJ4_append_15ec4 cJ4_append_15ec4 2 (some (.object "java/lang/StringBuilder")) 6 1 200 G (fl [[(sbh0, .inr (1, [.ref sbh1, .int (0 : Int32), .int sb.2.2.1, .int sb.2.2.2]))], [(sbh1, .inl (G.2.1 2, sb.1, .inl sb.2.1))], [(tjh0, .inr (0, [.ref tjh1, .int (0 : Int32), .int (0 : Int32), .int (0 : Int32)]))], [(tjh1, .inl (G.2.1 2, tj.1, .inl tj.2))]]) [.ref sbh0, .ref tjh0] sz (fun u : Nat × SbV => some (.ref sbh0)) (fun u : Nat × SbV => u.2 = f_J4_append_15ec4T sb tj) (fun u : Nat × SbV => fl [[(sbh0, .inr (1, [.ref u.1, .int (0 : Int32), .int u.2.2.2.1, .int u.2.2.2.2]))], [(u.1, .inl (G.2.1 2, u.2.1, .inl u.2.2.1))], [(tjh0, .inr (0, [.ref tjh1, .int (0 : Int32), .int (0 : Int32), .int (0 : Int32)]))], [(tjh1, .inl (G.2.1 2, tj.1, .inl tj.2))]]) := by
  refine w_start (by decide +kernel) (Nat.le_of_ble_eq_true rfl) ?_
  intro p e s m below meth c A hx hb hr hml hts hown hlk hin hP hD hA hK hST ls hl
  have hS : va_S A s.heap s.heap [] := va_S.rf
  have hown : s.vm.findClass RJ4 = some m.cls := hown
  have hl : lv_has ls 2 [(0, .ref sbh0), (1, .ref tjh0)] := hl
  have hF : f_J4_append_15ec4T sb tj = (let uu_3 : SbV := (f_J5_append_cf1ceT sb tj); uu_3) := rfl
  have hok : (ok_J5_append_cf1ceT sb tj ∧ True) := hok
  refine lv_aload_n hx hb dJ4_append_15ec4_0 rfl (lv_at hl 0 rfl) ?_
  refine lv_aload_n hx hb dJ4_append_15ec4_1 rfl (lv_at hl 1 rfl) ?_
  have k_1 := hok.1
  have hok := hok.2
  refine w_SU (own := RJ4) (cs := [[(sbh0, .inr (1, [.ref sbh1, .int (0 : Int32), .int sb.2.2.1, .int sb.2.2.2]))], [(sbh1, .inl (G.2.1 2, sb.1, .inl sb.2.1))], [(tjh0, .inr (0, [.ref tjh1, .int (0 : Int32), .int (0 : Int32), .int (0 : Int32)]))], [(tjh1, .inl (G.2.1 2, tj.1, .inl tj.2))]]) (rs := []) (As := [.ref tjh0]) (rest := []) (c_J5_append_cf1ceT l G sbh0 sbh1 tjh0 tjh1 s.heap.size sb tj k_1) ⟨hx, hb, hml, hown, hts⟩ gSU_J4_29 hdsu_J5_append_cf1ce 1 _ rfl rfl hK hST hS hP hD hA [0, 1, 2, 3] [] rfl rfl rfl (va_recv hK hP (ci := 1) (q0 := 0) rfl rfl) ⟨Nat.le_of_ble_eq_true rfl, Nat.le_of_ble_eq_true rfl⟩ ⟨Nat.le_of_ble_eq_true rfl, Nat.le_of_ble_eq_true rfl⟩ rfl hl.1 rfl (Nat.le_of_ble_eq_true rfl) dJ4_append_15ec4_2 (fun uu_3 H locs huu hP hD hS => ?_)
  obtain ⟨quu_3, uu_3⟩ := uu_3
  have euu_3 : uu_3 = (f_J5_append_cf1ceT sb tj) := huu
  have hP : va_P G.1 vwCl (fl [[(sbh0, .inr (1, [.ref quu_3, .int (0 : Int32), .int uu_3.2.2.1, .int uu_3.2.2.2]))], [(quu_3, .inl (G.2.1 2, uu_3.1, .inl uu_3.2.1))], [(tjh0, .inr (0, [.ref tjh1, .int (0 : Int32), .int (0 : Int32), .int (0 : Int32)]))], [(tjh1, .inl (G.2.1 2, tj.1, .inl tj.2))]]) H := hP
  have hD : va_D A (fl [[(sbh0, .inr (1, [.ref quu_3, .int (0 : Int32), .int uu_3.2.2.1, .int uu_3.2.2.2]))], [(quu_3, .inl (G.2.1 2, uu_3.1, .inl uu_3.2.1))], [(tjh0, .inr (0, [.ref tjh1, .int (0 : Int32), .int (0 : Int32), .int (0 : Int32)]))], [(tjh1, .inl (G.2.1 2, tj.1, .inl tj.2))]]) := hD
  refine W.eq (g2 := F0 m 5 ls [.ref sbh0]) rfl ?_
  have hF : f_J4_append_15ec4T sb tj = uu_3 := by subst euu_3; exact hF
  refine lv_pop hx hb dJ4_append_15ec4_5 rfl ?_
  refine lv_aload_n hx hb dJ4_append_15ec4_6 rfl (lv_at hl 0 rfl) ?_
  exact w_retA (u := (quu_3, uu_3)) hx hb hr hlk (Or.inl ⟨_, rfl⟩) (Or.inr ⟨_, rfl⟩) hS rfl hF.symm hP hD (Nat.le_of_ble_eq_true rfl) (Nat.le_of_ble_eq_true rfl) dJ4_append_15ec4_7
theorem dJ5_getValue_6d5f1_0 : decode cJ5_getValue_6d5f1 0 = .ok (.aload_n 0, 1) := by decide +kernel
theorem dJ5_getValue_6d5f1_1 : decode cJ5_getValue_6d5f1 1 = .ok (.getfield 15, 3) := by decide +kernel
theorem dJ5_getValue_6d5f1_4 : decode cJ5_getValue_6d5f1 4 = .ok (.areturn, 1) := by decide +kernel
def f_J5_getValue_6d5f1 (sb : SbV) : Unit := ()
set_option maxHeartbeats 4000000 in
set_option maxRecDepth 100000 in
theorem c_J5_getValue_6d5f1 (l : Launch) (G : GG) (sbh0 : Nat) (sbh1 : Nat) (sb : SbV) : rMet l yJ5_getValue_6d5f1 cJ5_getValue_6d5f1 1 (some (.array .byte)) 1 G (fl [[(sbh0, .inr (1, [.ref sbh1, .int (0 : Int32), .int sb.2.2.1, .int sb.2.2.2]))], [(sbh1, .inl (G.2.1 2, sb.1, .inl sb.2.1))]]) [.ref sbh0] (some (.ref sbh1)) (True) := by
  refine r_start (by decide +kernel) (Nat.le_of_ble_eq_true rfl) ?_
  intro p e s m below meth c hx hb hr hml hts hown hlk hP hK hST ls hl
  have hS : va_S (fun _ => False) s.heap s.heap [] := va_S.rf
  have hown : s.vm.findClass RJ5 = some m.cls := hown
  have hl : lv_has ls 1 [(0, .ref sbh0)] := hl
  have hF : f_J5_getValue_6d5f1 sb = () := rfl
  refine lv_aload_n hx hb dJ5_getValue_6d5f1_0 rfl (lv_at hl 0 rfl) ?_
  refine va_get (D := G.1) (ci := 1) (v := .ref sbh1) (C := RJ4) (T := TJ4) (N := 4) hx hb hts uws_J4 hown hK hP 0 rfl rfl 0 (by decide) (hts _ u_185) (fun _ h9 => h9) rfl dJ5_getValue_6d5f1_1 ?_
  exact r_retA hx hb hr hlk (Or.inr ⟨_, rfl⟩) (Or.inr ⟨_, rfl⟩) (rfl) trivial dJ5_getValue_6d5f1_4
theorem dJ7_checkLength_df160_0 : decode cJ7_checkLength_df160 0 = .ok (.iload_n 1, 1) := by decide +kernel
theorem dJ7_checkLength_df160_1 : decode cJ7_checkLength_df160 1 = .ok (.iload_n 0, 1) := by decide +kernel
theorem dJ7_checkLength_df160_2 : decode cJ7_checkLength_df160 2 = .ok (.if_icmp .ge 35, 3) := by decide +kernel
theorem dJ7_checkLength_df160_37 : decode cJ7_checkLength_df160 37 = .ok (.return_, 1) := by decide +kernel
def f_J7_checkLength_df160 (x : Int32) (y : Int32) : Unit := (if x ≤ y then () else ())
def ok_J7_checkLength_df160 (x : Int32) (y : Int32) : Prop := (if x ≤ y then True else False)
set_option maxHeartbeats 4000000 in
set_option maxRecDepth 100000 in
theorem c_J7_checkLength_df160 (l : Launch) (G : GG)  (x : Int32) (y : Int32) (hok : ok_J7_checkLength_df160 x y) : rMet l yJ7_checkLength_df160 cJ7_checkLength_df160 2 none 1 G (fl []) [.int x, .int y] (none) (True) := by
  refine r_start (by decide +kernel) (Nat.le_of_ble_eq_true rfl) ?_
  intro p e s m below meth c hx hb hr hml hts hown hlk hP hK hST ls hl
  have hS : va_S (fun _ => False) s.heap s.heap [] := va_S.rf
  have hown : s.vm.findClass RJ7 = some m.cls := hown
  have hl : lv_has ls 2 [(0, .int x), (1, .int y)] := hl
  have hF : f_J7_checkLength_df160 x y = (if x ≤ y then () else ()) := rfl
  have hok : (if x ≤ y then True else False) := hok
  refine lv_iload_n hx hb dJ7_checkLength_df160_0 rfl (lv_at hl 1 rfl) ?_
  refine lv_iload_n hx hb dJ7_checkLength_df160_1 rfl (lv_at hl 0 rfl) ?_
  refine lv_icmp_ge (tgt := 37) hx hb dJ7_checkLength_df160_2 (by decide) (fun c_1 => ?_) (fun c_1 => ?_)
  · have hF := hF.trans (if_pos c_1)
    have hok := Eq.mp (if_pos c_1) hok
    exact r_retV hx hb hr hlk trivial dJ7_checkLength_df160_37
  · have hF := hF.trans (if_neg c_1)
    have hok := Eq.mp (if_neg c_1) hok
    exact hok.elim
theorem dJ7_copyOfRangeByte_39247_0 : decode cJ7_copyOfRangeByte_39247 0 = .ok (.iload_n 1, 1) := by decide +kernel
theorem dJ7_copyOfRangeByte_39247_1 : decode cJ7_copyOfRangeByte_39247 1 = .ok (.iload_n 2, 1) := by decide +kernel
theorem dJ7_copyOfRangeByte_39247_2 : decode cJ7_copyOfRangeByte_39247 2 = .ok (.invokestatic 343, 3) := by decide +kernel
theorem u_377 : Cond.methodLink RJ7 343 yJ7_checkLength_df160 ∈ UW := uw 377 (by decide +kernel) rfl
theorem u_378 : Cond.static yJ7_checkLength_df160 ∈ UW := uw 378 (by decide +kernel) rfl
theorem u_379 : Cond.code yJ7_checkLength_df160 cJ7_checkLength_df160 2 none ∈ UW := uw 379 (by decide +kernel) rfl
theorem g_J7_343 : GoodIn UW (va_wsS RJ7 343 yJ7_checkLength_df160 (wsU yJ7_checkLength_df160 cJ7_checkLength_df160 2 none)) := gS u_377 u_378 u_50 u_379
theorem hds_J7_checkLength_df160 : yJ7_checkLength_df160.cls ≠ "java/lang/invoke/MethodHandle" ∧ yJ7_checkLength_df160.cls ≠ "java/lang/invoke/VarHandle" ∧ (parseMethodDescriptor yJ7_checkLength_df160.desc).map (fun d => d.parameters.length) = some 2 := by decide +kernel
theorem dJ7_copyOfRangeByte_39247_5 : decode cJ7_copyOfRangeByte_39247 5 = .ok (.iload_n 2, 1) := by decide +kernel
theorem dJ7_copyOfRangeByte_39247_6 : decode cJ7_copyOfRangeByte_39247 6 = .ok (.iload_n 1, 1) := by decide +kernel
theorem dJ7_copyOfRangeByte_39247_7 : decode cJ7_copyOfRangeByte_39247 7 = .ok (.isub, 1) := by decide +kernel
theorem dJ7_copyOfRangeByte_39247_8 : decode cJ7_copyOfRangeByte_39247 8 = .ok (.istore_n 3, 1) := by decide +kernel
theorem dJ7_copyOfRangeByte_39247_9 : decode cJ7_copyOfRangeByte_39247 9 = .ok (.iload_n 3, 1) := by decide +kernel
theorem dJ7_copyOfRangeByte_39247_10 : decode cJ7_copyOfRangeByte_39247 10 = .ok (.newarray .byte, 2) := by decide +kernel
theorem dJ7_copyOfRangeByte_39247_12 : decode cJ7_copyOfRangeByte_39247 12 = .ok (.astore 4, 2) := by decide +kernel
theorem dJ7_copyOfRangeByte_39247_14 : decode cJ7_copyOfRangeByte_39247 14 = .ok (.aload_n 0, 1) := by decide +kernel
theorem dJ7_copyOfRangeByte_39247_15 : decode cJ7_copyOfRangeByte_39247 15 = .ok (.iload_n 1, 1) := by decide +kernel
theorem dJ7_copyOfRangeByte_39247_16 : decode cJ7_copyOfRangeByte_39247 16 = .ok (.aload 4, 2) := by decide +kernel
theorem dJ7_copyOfRangeByte_39247_18 : decode cJ7_copyOfRangeByte_39247 18 = .ok (.iconst 0, 1) := by decide +kernel
theorem dJ7_copyOfRangeByte_39247_19 : decode cJ7_copyOfRangeByte_39247 19 = .ok (.aload_n 0, 1) := by decide +kernel
theorem dJ7_copyOfRangeByte_39247_20 : decode cJ7_copyOfRangeByte_39247 20 = .ok (.arraylength, 1) := by decide +kernel
theorem dJ7_copyOfRangeByte_39247_21 : decode cJ7_copyOfRangeByte_39247 21 = .ok (.iload_n 1, 1) := by decide +kernel
theorem dJ7_copyOfRangeByte_39247_22 : decode cJ7_copyOfRangeByte_39247 22 = .ok (.isub, 1) := by decide +kernel
theorem dJ7_copyOfRangeByte_39247_23 : decode cJ7_copyOfRangeByte_39247 23 = .ok (.iload_n 3, 1) := by decide +kernel
theorem dJ7_copyOfRangeByte_39247_24 : decode cJ7_copyOfRangeByte_39247 24 = .ok (.invokestatic 304, 3) := by decide +kernel
theorem dJ7_copyOfRangeByte_39247_27 : decode cJ7_copyOfRangeByte_39247 27 = .ok (.invokestatic 150, 3) := by decide +kernel
theorem dJ7_copyOfRangeByte_39247_30 : decode cJ7_copyOfRangeByte_39247 30 = .ok (.aload 4, 2) := by decide +kernel
theorem dJ7_copyOfRangeByte_39247_32 : decode cJ7_copyOfRangeByte_39247 32 = .ok (.areturn, 1) := by decide +kernel
def f_J7_copyOfRangeByte_39247 (ryn : Nat) (ry : Nat → Int32) (x : Int32) (y : Int32) : Nat × (Nat → Int32) := ((y - x).toNatClampNeg, (va_cpy ry (fun _ => 0) x.toNatClampNeg (0 : Int32).toNatClampNeg (f_J9_min_7cf53 ((nI ryn) - x) (y - x)).toNatClampNeg))
def ok_J7_copyOfRangeByte_39247 (ryn : Nat) (ry : Nat → Int32) (x : Int32) (y : Int32) : Prop := (ok_J7_checkLength_df160 x y ∧ (¬ (y - x) < 0 ∧ ((y - x).toNatClampNeg ≤ 200 ∧ (¬ x < 0 ∧ (¬ (f_J9_min_7cf53 ((nI ryn) - x) (y - x)) < 0 ∧ (x.toNatClampNeg + (f_J9_min_7cf53 ((nI ryn) - x) (y - x)).toNatClampNeg ≤ ryn ∧ ((0 : Int32).toNatClampNeg + (f_J9_min_7cf53 ((nI ryn) - x) (y - x)).toNatClampNeg ≤ ((y - x).toNatClampNeg) ∧ ((∀ i, i < (f_J9_min_7cf53 ((nI ryn) - x) (y - x)).toNatClampNeg → fits .byte (.int (ry (x.toNatClampNeg + i))) = true) ∧ True))))))))
set_option maxHeartbeats 4000000 in
set_option maxRecDepth 100000 in
theorem c_J7_copyOfRangeByte_39247 (l : Launch) (G : GG) (ryh : Nat) (sz : Nat) (ryn : Nat) (ry : Nat → Int32) (x : Int32) (y : Int32) (hok : ok_J7_copyOfRangeByte_39247 ryn ry x y) (hyp_ryn : ryn < 2147483648) : wMet l yJ7_copyOfRangeByte_39247 cJ7_copyOfRangeByte_39247 5 (some (.array .byte)) 3 1 200 G (fl [[(ryh, .inl (G.2.1 2, ryn, .inl ry))]]) [.ref ryh, .int x, .int y] sz (fun u : Nat × Nat × (Nat → Int32) => some (.ref u.1)) (fun u : Nat × Nat × (Nat → Int32) => u.2 = f_J7_copyOfRangeByte_39247 ryn ry x y) (fun u : Nat × Nat × (Nat → Int32) => fl [[(ryh, .inl (G.2.1 2, ryn, .inl ry))], [(u.1, .inl (G.2.1 2, u.2.1, .inl u.2.2))]]) := by
  refine w_start (by decide +kernel) (Nat.le_of_ble_eq_true rfl) ?_
  intro p e s m below meth c A hx hb hr hml hts hown hlk hin hP hD hA hK hST ls hl
  have hS : va_S A s.heap s.heap [] := va_S.rf
  have hown : s.vm.findClass RJ7 = some m.cls := hown
  have hl : lv_has ls 5 [(0, .ref ryh), (1, .int x), (2, .int y)] := hl
  have hF : f_J7_copyOfRangeByte_39247 ryn ry x y = ((y - x).toNatClampNeg, (va_cpy ry (fun _ => 0) x.toNatClampNeg (0 : Int32).toNatClampNeg (f_J9_min_7cf53 ((nI ryn) - x) (y - x)).toNatClampNeg)) := rfl
  have hok : (ok_J7_checkLength_df160 x y ∧ (¬ (y - x) < 0 ∧ ((y - x).toNatClampNeg ≤ 200 ∧ (¬ x < 0 ∧ (¬ (f_J9_min_7cf53 ((nI ryn) - x) (y - x)) < 0 ∧ (x.toNatClampNeg + (f_J9_min_7cf53 ((nI ryn) - x) (y - x)).toNatClampNeg ≤ ryn ∧ ((0 : Int32).toNatClampNeg + (f_J9_min_7cf53 ((nI ryn) - x) (y - x)).toNatClampNeg ≤ ((y - x).toNatClampNeg) ∧ ((∀ i, i < (f_J9_min_7cf53 ((nI ryn) - x) (y - x)).toNatClampNeg → fits .byte (.int (ry (x.toNatClampNeg + i))) = true) ∧ True)))))))) := hok
  refine lv_iload_n hx hb dJ7_copyOfRangeByte_39247_0 rfl (lv_at hl 1 rfl) ?_
  refine lv_iload_n hx hb dJ7_copyOfRangeByte_39247_1 rfl (lv_at hl 2 rfl) ?_
  have k_1 := hok.1
  have hok := hok.2
  refine r_S (own := RJ7) (v := none) (st1 := []) (As := [.int x, .int y]) (rest := []) (c_J7_checkLength_df160 l G x y k_1) ⟨hx, hb, hml, hown, hts⟩ g_J7_343 hds_J7_checkLength_df160 hK hST hS hP [] rfl ⟨Nat.le_of_ble_eq_true rfl, Nat.le_of_ble_eq_true rfl⟩ ⟨Nat.le_of_ble_eq_true rfl, Nat.le_of_ble_eq_true rfl⟩ rfl hl.1 rfl (Nat.le_of_ble_eq_true rfl) dJ7_copyOfRangeByte_39247_2 rfl (fun b_2 => ?_)
  refine lv_iload_n hx hb dJ7_copyOfRangeByte_39247_5 rfl (lv_at hl 2 rfl) ?_
  refine lv_iload_n hx hb dJ7_copyOfRangeByte_39247_6 rfl (lv_at hl 1 rfl) ?_
  refine lv_isub hx hb dJ7_copyOfRangeByte_39247_7 ?_
  refine lv_istore_n (lv' := [(3, .int (y - x)), (0, .ref ryh), (1, .int x), (2, .int y)]) hx hb dJ7_copyOfRangeByte_39247_8 rfl hl (by decide) rfl (fun ls hl => ?_)
  refine lv_iload_n hx hb dJ7_copyOfRangeByte_39247_9 rfl (lv_at hl 0 rfl) ?_
  have h_3 := hok.1
  have hok := hok.2
  have h_4 := hok.1
  have hok := hok.2
  refine W.widen (k := 0) (n := 0) (Nat.le_refl _) (Nat.le_refl _) ?_
  refine w_newB (N := (y - x).toNatClampNeg) hx hb (hts _ u_153) hK hP hD hS hA h_3 rfl (by have := h_4; show _ * 1 ≤ _; omega) (Nat.le_of_ble_eq_true rfl) ((by have := h_4; show 0 + _ ≤ 200; omega)) dJ7_copyOfRangeByte_39247_10 (fun q_5 H hP hD hS => ?_)
  refine W.widen (k := 1) (n := 200) (Nat.le_refl _) (by have := h_4; omega) ?_
  have hP : va_P G.1 vwCl (fl [[(ryh, .inl (G.2.1 2, ryn, .inl ry))], [(q_5, .inl (G.2.1 2, ((y - x).toNatClampNeg), .inl (fun _ => 0)))]]) H := hP
  have hD : va_D A (fl [[(ryh, .inl (G.2.1 2, ryn, .inl ry))], [(q_5, .inl (G.2.1 2, ((y - x).toNatClampNeg), .inl (fun _ => 0)))]]) := hD
  refine lv_astore (lv' := [(4, .ref q_5), (3, .int (y - x)), (0, .ref ryh), (1, .int x), (2, .int y)]) hx hb dJ7_copyOfRangeByte_39247_12 hl (by decide) rfl (fun ls hl => ?_)
  refine lv_aload_n hx hb dJ7_copyOfRangeByte_39247_14 rfl (lv_at hl 2 rfl) ?_
  refine lv_iload_n hx hb dJ7_copyOfRangeByte_39247_15 rfl (lv_at hl 3 rfl) ?_
  refine lv_aload hx hb dJ7_copyOfRangeByte_39247_16 (lv_at hl 0 rfl) ?_
  refine lv_iconst (v := (0 : Int32)) hx hb dJ7_copyOfRangeByte_39247_18 (by decide) ?_
  refine lv_aload_n hx hb dJ7_copyOfRangeByte_39247_19 rfl (lv_at hl 2 rfl) ?_
  refine va_alen (v := (nI ryn)) hx hb hK hP 0 2 rfl rfl rfl dJ7_copyOfRangeByte_39247_20 ?_
  refine lv_iload_n hx hb dJ7_copyOfRangeByte_39247_21 rfl (lv_at hl 3 rfl) ?_
  refine lv_isub hx hb dJ7_copyOfRangeByte_39247_22 ?_
  refine lv_iload_n hx hb dJ7_copyOfRangeByte_39247_23 rfl (lv_at hl 1 rfl) ?_
  refine r_S (own := RJ7) (v := (some (.int (f_J9_min_7cf53 ((nI ryn) - x) (y - x))))) (st1 := [.int (f_J9_min_7cf53 ((nI ryn) - x) (y - x)), .int (0 : Int32), .ref q_5, .int x, .ref ryh]) (As := [.int ((nI ryn) - x), .int (y - x)]) (rest := [.int (0 : Int32), .ref q_5, .int x, .ref ryh]) (c_J9_min_7cf53 l G ((nI ryn) - x) (y - x)) ⟨hx, hb, hml, hown, hts⟩ g_J7_304 hds_J9_min_7cf53 hK hST hS hP [] rfl ⟨Nat.le_of_ble_eq_true rfl, Nat.le_of_ble_eq_true rfl⟩ ⟨Nat.le_of_ble_eq_true rfl, Nat.le_of_ble_eq_true rfl⟩ rfl hl.1 rfl (Nat.le_of_ble_eq_true rfl) dJ7_copyOfRangeByte_39247_24 rfl (fun b_6 => ?_)
  have h_7 := hok.1
  have hok := hok.2
  have h_8 := hok.1
  have hok := hok.2
  have h_9 := hok.1
  have hok := hok.2
  have h_10 := hok.1
  have hok := hok.2
  have h_11 := hok.1
  have hok := hok.2
  refine va_copyi (ty := .byte) hx hb (hml.trans hl.1.symm) hown (hts _ u_242) (hts _ u_244) (hts _ u_243) (hts _ u_51) hK hP hD hS 0 1 2 2 rfl rfl rfl rfl rfl h_7 (by decide) h_8 h_9 h_10 h_11 (Nat.le_of_ble_eq_true rfl) (Nat.le_of_ble_eq_true rfl) dJ7_copyOfRangeByte_39247_27 (fun H locs hP hD hS => ?_)
  have hP : va_P G.1 vwCl (fl [[(ryh, .inl (G.2.1 2, ryn, .inl ry))], [(q_5, .inl (G.2.1 2, ((y - x).toNatClampNeg), .inl (va_cpy ry (fun _ => 0) x.toNatClampNeg (0 : Int32).toNatClampNeg (f_J9_min_7cf53 ((nI ryn) - x) (y - x)).toNatClampNeg)))]]) H := hP
  have hD : va_D A (fl [[(ryh, .inl (G.2.1 2, ryn, .inl ry))], [(q_5, .inl (G.2.1 2, ((y - x).toNatClampNeg), .inl (va_cpy ry (fun _ => 0) x.toNatClampNeg (0 : Int32).toNatClampNeg (f_J9_min_7cf53 ((nI ryn) - x) (y - x)).toNatClampNeg)))]]) := hD
  refine W.eq (g2 := F0 m 30 ls []) rfl ?_
  refine lv_aload hx hb dJ7_copyOfRangeByte_39247_30 (lv_at hl 0 rfl) ?_
  exact w_retA (u := (q_5, ((y - x).toNatClampNeg, (va_cpy ry (fun _ => 0) x.toNatClampNeg (0 : Int32).toNatClampNeg (f_J9_min_7cf53 ((nI ryn) - x) (y - x)).toNatClampNeg)))) hx hb hr hlk (Or.inr ⟨_, rfl⟩) (Or.inr ⟨_, rfl⟩) hS rfl hF.symm hP hD (Nat.le_of_ble_eq_true rfl) (Nat.le_of_ble_eq_true rfl) dJ7_copyOfRangeByte_39247_32
theorem dJ7_copyOfRange_39247_0 : decode cJ7_copyOfRange_39247 0 = .ok (.iload_n 1, 1) := by decide +kernel
theorem dJ7_copyOfRange_39247_1 : decode cJ7_copyOfRange_39247 1 = .ok (.ifCond .ne 9, 3) := by decide +kernel
theorem dJ7_copyOfRange_39247_10 : decode cJ7_copyOfRange_39247 10 = .ok (.aload_n 0, 1) := by decide +kernel
theorem dJ7_copyOfRange_39247_11 : decode cJ7_copyOfRange_39247 11 = .ok (.iload_n 1, 1) := by decide +kernel
theorem dJ7_copyOfRange_39247_12 : decode cJ7_copyOfRange_39247 12 = .ok (.iload_n 2, 1) := by decide +kernel
theorem dJ7_copyOfRange_39247_13 : decode cJ7_copyOfRange_39247 13 = .ok (.invokestatic 339, 3) := by decide +kernel
theorem u_374 : Cond.methodLink RJ7 339 yJ7_copyOfRangeByte_39247 ∈ UW := uw 374 (by decide +kernel) rfl
theorem u_375 : Cond.static yJ7_copyOfRangeByte_39247 ∈ UW := uw 375 (by decide +kernel) rfl
theorem u_376 : Cond.code yJ7_copyOfRangeByte_39247 cJ7_copyOfRangeByte_39247 5 (some (.array .byte)) ∈ UW := uw 376 (by decide +kernel) rfl
theorem g_J7_339 : GoodIn UW (va_wsS RJ7 339 yJ7_copyOfRangeByte_39247 (wsU yJ7_copyOfRangeByte_39247 cJ7_copyOfRangeByte_39247 5 (some (.array .byte)))) := gS u_374 u_375 u_50 u_376
theorem hds_J7_copyOfRangeByte_39247 : yJ7_copyOfRangeByte_39247.cls ≠ "java/lang/invoke/MethodHandle" ∧ yJ7_copyOfRangeByte_39247.cls ≠ "java/lang/invoke/VarHandle" ∧ (parseMethodDescriptor yJ7_copyOfRangeByte_39247.desc).map (fun d => d.parameters.length) = some 3 := by decide +kernel
theorem dJ7_copyOfRange_39247_16 : decode cJ7_copyOfRange_39247 16 = .ok (.areturn, 1) := by decide +kernel
theorem dJ7_copyOfRange_39247_4 : decode cJ7_copyOfRange_39247 4 = .ok (.iload_n 2, 1) := by decide +kernel
theorem dJ7_copyOfRange_39247_5 : decode cJ7_copyOfRange_39247 5 = .ok (.aload_n 0, 1) := by decide +kernel
theorem dJ7_copyOfRange_39247_6 : decode cJ7_copyOfRange_39247 6 = .ok (.arraylength, 1) := by decide +kernel
theorem dJ7_copyOfRange_39247_7 : decode cJ7_copyOfRange_39247 7 = .ok (.if_icmp .eq 10, 3) := by decide +kernel
theorem dJ7_copyOfRange_39247_17 : decode cJ7_copyOfRange_39247 17 = .ok (.aload_n 0, 1) := by decide +kernel
theorem dJ7_copyOfRange_39247_18 : decode cJ7_copyOfRange_39247 18 = .ok (.invokevirtual 310, 3) := by decide +kernel
theorem cst_clone : Cond.castable "[B" "java/lang/Cloneable" ∈ CW := cwm 237 (by decide +kernel) rfl
theorem u_232 : Cond.methodLink RJ7 310 ⟨"[B", "clone", "()Ljava/lang/Object;"⟩ ∈ UW := uw 232 (by decide +kernel) rfl
theorem u_233 : Cond.sameMethod "[B" "java/lang/Object" "clone" "()Ljava/lang/Object;" ∈ UW := uw 233 (by decide +kernel) rfl
theorem u_234 : Cond.native ⟨"java/lang/Object", "clone", "()Ljava/lang/Object;"⟩ ∈ UW := uw 234 (by decide +kernel) rfl
theorem u_235 : Cond.instanceMethod ⟨"java/lang/Object", "clone", "()Ljava/lang/Object;"⟩ ∈ UW := uw 235 (by decide +kernel) rfl
theorem u_236 : Cond.selects "[B" ⟨"[B", "clone", "()Ljava/lang/Object;"⟩ ⟨"java/lang/Object", "clone", "()Ljava/lang/Object;"⟩ ∈ UW := uw 236 (by decide +kernel) rfl
theorem dJ7_copyOfRange_39247_21 : decode cJ7_copyOfRange_39247 21 = .ok (.checkcast 311, 3) := by decide +kernel
theorem u_238 : Cond.classLink RJ7 311 "[B" ∈ UW := uw 238 (by decide +kernel) rfl
theorem dJ7_copyOfRange_39247_24 : decode cJ7_copyOfRange_39247 24 = .ok (.areturn, 1) := by decide +kernel
def f_J7_copyOfRange_39247 (ryn : Nat) (ry : Nat → Int32) (x : Int32) (y : Int32) : Nat × (Nat → Int32) := (if x = (0 : Int32) then (if y = (nI ryn) then (ryn, ry) else (let uu_11 : Nat × (Nat → Int32) := (f_J7_copyOfRangeByte_39247 ryn ry x y); (uu_11.1, uu_11.2))) else (let uu_4 : Nat × (Nat → Int32) := (f_J7_copyOfRangeByte_39247 ryn ry x y); (uu_4.1, uu_4.2)))
def ok_J7_copyOfRange_39247 (ryn : Nat) (ry : Nat → Int32) (x : Int32) (y : Int32) : Prop := (if x = (0 : Int32) then (if y = (nI ryn) then ((∀ i, i < ryn → fits .byte (.int (ry i)) = true) ∧ (ryn ≤ 200 ∧ True)) else (ok_J7_copyOfRangeByte_39247 ryn ry x y ∧ True)) else (ok_J7_copyOfRangeByte_39247 ryn ry x y ∧ True))
set_option maxHeartbeats 4000000 in
set_option maxRecDepth 100000 in
theorem c_J7_copyOfRange_39247 (l : Launch) (G : GG) (ryh : Nat) (sz : Nat) (ryn : Nat) (ry : Nat → Int32) (x : Int32) (y : Int32) (hok : ok_J7_copyOfRange_39247 ryn ry x y) (hyp_ryn : ryn < 2147483648) : wMet l yJ7_copyOfRange_39247 cJ7_copyOfRange_39247 3 (some (.array .byte)) 4 1 200 G (fl [[(ryh, .inl (G.2.1 2, ryn, .inl ry))]]) [.ref ryh, .int x, .int y] sz (fun u : Nat × Nat × (Nat → Int32) => some (.ref u.1)) (fun u : Nat × Nat × (Nat → Int32) => u.2 = f_J7_copyOfRange_39247 ryn ry x y) (fun u : Nat × Nat × (Nat → Int32) => fl [[(ryh, .inl (G.2.1 2, ryn, .inl ry))], [(u.1, .inl (G.2.1 2, u.2.1, .inl u.2.2))]]) := by
  refine w_start (by decide +kernel) (Nat.le_of_ble_eq_true rfl) ?_
  intro p e s m below meth c A hx hb hr hml hts hown hlk hin hP hD hA hK hST ls hl
  have hS : va_S A s.heap s.heap [] := va_S.rf
  have hown : s.vm.findClass RJ7 = some m.cls := hown
  have hl : lv_has ls 3 [(0, .ref ryh), (1, .int x), (2, .int y)] := hl
  have hF : f_J7_copyOfRange_39247 ryn ry x y = (if x = (0 : Int32) then (if y = (nI ryn) then (ryn, ry) else (let uu_11 : Nat × (Nat → Int32) := (f_J7_copyOfRangeByte_39247 ryn ry x y); (uu_11.1, uu_11.2))) else (let uu_4 : Nat × (Nat → Int32) := (f_J7_copyOfRangeByte_39247 ryn ry x y); (uu_4.1, uu_4.2))) := rfl
  have hok : (if x = (0 : Int32) then (if y = (nI ryn) then ((∀ i, i < ryn → fits .byte (.int (ry i)) = true) ∧ (ryn ≤ 200 ∧ True)) else (ok_J7_copyOfRangeByte_39247 ryn ry x y ∧ True)) else (ok_J7_copyOfRangeByte_39247 ryn ry x y ∧ True)) := hok
  refine lv_iload_n hx hb dJ7_copyOfRange_39247_0 rfl (lv_at hl 1 rfl) ?_
  refine lv_if_ne (tgt := 10) hx hb dJ7_copyOfRange_39247_1 (by decide) (fun c_1 => ?_) (fun c_1 => ?_)
  · have hF := hF.trans (if_neg c_1)
    have hok := Eq.mp (if_neg c_1) hok
    refine lv_aload_n hx hb dJ7_copyOfRange_39247_10 rfl (lv_at hl 0 rfl) ?_
    refine lv_iload_n hx hb dJ7_copyOfRange_39247_11 rfl (lv_at hl 1 rfl) ?_
    refine lv_iload_n hx hb dJ7_copyOfRange_39247_12 rfl (lv_at hl 2 rfl) ?_
    have k_2 := hok.1
    have hok := hok.2
    refine w_S (own := RJ7) (cs := [[(ryh, .inl (G.2.1 2, ryn, .inl ry))]]) (rs := []) (As := [.ref ryh, .int x, .int y]) (rest := []) (c_J7_copyOfRangeByte_39247 l G ryh s.heap.size ryn ry x y k_2 hyp_ryn) ⟨hx, hb, hml, hown, hts⟩ g_J7_339 hds_J7_copyOfRangeByte_39247 hK hST hS hP hD hA [0] [] rfl rfl rfl ⟨Nat.le_of_ble_eq_true rfl, Nat.le_of_ble_eq_true rfl⟩ ⟨Nat.le_of_ble_eq_true rfl, Nat.le_of_ble_eq_true rfl⟩ rfl hl.1 rfl (Nat.le_of_ble_eq_true rfl) dJ7_copyOfRange_39247_13 (fun uu_4 H locs huu hP hD hS => ?_)
    obtain ⟨quu_4, uu_4⟩ := uu_4
    have euu_4 : uu_4 = (f_J7_copyOfRangeByte_39247 ryn ry x y) := huu
    have hP : va_P G.1 vwCl (fl [[(ryh, .inl (G.2.1 2, ryn, .inl ry))], [(quu_4, .inl (G.2.1 2, uu_4.1, .inl uu_4.2))]]) H := hP
    have hD : va_D A (fl [[(ryh, .inl (G.2.1 2, ryn, .inl ry))], [(quu_4, .inl (G.2.1 2, uu_4.1, .inl uu_4.2))]]) := hD
    refine W.eq (g2 := F0 m 16 ls [.ref quu_4]) rfl ?_
    have hF : f_J7_copyOfRange_39247 ryn ry x y = (uu_4.1, uu_4.2) := by subst euu_4; exact hF
    exact w_retA (u := (quu_4, (uu_4.1, uu_4.2))) hx hb hr hlk (Or.inr ⟨_, rfl⟩) (Or.inr ⟨_, rfl⟩) hS rfl hF.symm hP hD (Nat.le_of_ble_eq_true rfl) (Nat.le_of_ble_eq_true rfl) dJ7_copyOfRange_39247_16
  · have hF := hF.trans (if_pos c_1)
    have hok := Eq.mp (if_pos c_1) hok
    refine lv_iload_n hx hb dJ7_copyOfRange_39247_4 rfl (lv_at hl 2 rfl) ?_
    refine lv_aload_n hx hb dJ7_copyOfRange_39247_5 rfl (lv_at hl 0 rfl) ?_
    refine va_alen (v := (nI ryn)) hx hb hK hP 0 2 rfl rfl rfl dJ7_copyOfRange_39247_6 ?_
    refine lv_icmp_eq (tgt := 17) hx hb dJ7_copyOfRange_39247_7 (by decide) (fun c_5 => ?_) (fun c_5 => ?_)
    · have hF := hF.trans (if_pos c_5)
      have hok := Eq.mp (if_pos c_5) hok
      refine lv_aload_n hx hb dJ7_copyOfRange_39247_17 rfl (lv_at hl 0 rfl) ?_
      have h_6 := hok.1
      have hok := hok.2
      have h_7 := hok.1
      have hok := hok.2
      refine W.widen (k := 0) (n := 0) (Nat.le_refl _) (Nat.le_refl _) ?_
      refine va_clone hx hb (hml.trans hl.1.symm) hown (hts _ u_232) (hts _ u_233) (hts _ u_234) (hts _ u_235) (hts _ u_236) (hST.2.2.2.2.2.2.2.1 _ cst_clone) hK hP hD hS hA 0 2 rfl rfl (hK.2 2 _ rfl).2 (fit_b h_6) (Nat.le_of_ble_eq_true rfl) (Nat.le_of_ble_eq_true rfl) (Nat.le_of_ble_eq_true rfl) (by have := h_7; show 0 + _ ≤ 200; omega) dJ7_copyOfRange_39247_18 (fun q_8 H _ hP hD hS => ?_)
      refine W.widen (k := 1) (n := 200) (Nat.le_refl _) (by have := h_7; show 0 + _ ≤ _; omega) ?_
      have hP : va_P G.1 vwCl (fl [[(ryh, .inl (G.2.1 2, ryn, .inl ry))], [(q_8, .inl (G.2.1 2, ryn, .inl ry))]]) H := hP
      have hD : va_D A (fl [[(ryh, .inl (G.2.1 2, ryn, .inl ry))], [(q_8, .inl (G.2.1 2, ryn, .inl ry))]]) := hD
      refine va_castA hx hb hown (hts _ u_238) hP 1 rfl (hK.2 2 _ rfl).2 dJ7_copyOfRange_39247_21 ?_
      exact w_retA (u := (q_8, (ryn, ry))) hx hb hr hlk (Or.inr ⟨_, rfl⟩) (Or.inr ⟨_, rfl⟩) hS rfl hF.symm hP hD (Nat.le_of_ble_eq_true rfl) (Nat.le_of_ble_eq_true rfl) dJ7_copyOfRange_39247_24
    · have hF := hF.trans (if_neg c_5)
      have hok := Eq.mp (if_neg c_5) hok
      refine lv_aload_n hx hb dJ7_copyOfRange_39247_10 rfl (lv_at hl 0 rfl) ?_
      refine lv_iload_n hx hb dJ7_copyOfRange_39247_11 rfl (lv_at hl 1 rfl) ?_
      refine lv_iload_n hx hb dJ7_copyOfRange_39247_12 rfl (lv_at hl 2 rfl) ?_
      have k_9 := hok.1
      have hok := hok.2
      refine w_S (own := RJ7) (cs := [[(ryh, .inl (G.2.1 2, ryn, .inl ry))]]) (rs := []) (As := [.ref ryh, .int x, .int y]) (rest := []) (c_J7_copyOfRangeByte_39247 l G ryh s.heap.size ryn ry x y k_9 hyp_ryn) ⟨hx, hb, hml, hown, hts⟩ g_J7_339 hds_J7_copyOfRangeByte_39247 hK hST hS hP hD hA [0] [] rfl rfl rfl ⟨Nat.le_of_ble_eq_true rfl, Nat.le_of_ble_eq_true rfl⟩ ⟨Nat.le_of_ble_eq_true rfl, Nat.le_of_ble_eq_true rfl⟩ rfl hl.1 rfl (Nat.le_of_ble_eq_true rfl) dJ7_copyOfRange_39247_13 (fun uu_11 H locs huu hP hD hS => ?_)
      obtain ⟨quu_11, uu_11⟩ := uu_11
      have euu_11 : uu_11 = (f_J7_copyOfRangeByte_39247 ryn ry x y) := huu
      have hP : va_P G.1 vwCl (fl [[(ryh, .inl (G.2.1 2, ryn, .inl ry))], [(quu_11, .inl (G.2.1 2, uu_11.1, .inl uu_11.2))]]) H := hP
      have hD : va_D A (fl [[(ryh, .inl (G.2.1 2, ryn, .inl ry))], [(quu_11, .inl (G.2.1 2, uu_11.1, .inl uu_11.2))]]) := hD
      refine W.eq (g2 := F0 m 16 ls [.ref quu_11]) rfl ?_
      have hF : f_J7_copyOfRange_39247 ryn ry x y = (uu_11.1, uu_11.2) := by subst euu_11; exact hF
      exact w_retA (u := (quu_11, (uu_11.1, uu_11.2))) hx hb hr hlk (Or.inr ⟨_, rfl⟩) (Or.inr ⟨_, rfl⟩) hS rfl hF.symm hP hD (Nat.le_of_ble_eq_true rfl) (Nat.le_of_ble_eq_true rfl) dJ7_copyOfRange_39247_16
