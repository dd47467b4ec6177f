theorem dJ0_isLatin1_aae02_0 : decode cJ0_isLatin1_aae02 0 = .ok (.getstatic 38, 3) := by decide +kernel
theorem u_284 : Cond.fieldLink RJ0 38 "java/lang/String" "COMPACT_STRINGS" "Z" ∈ UW := uw 284 (by decide +kernel) rfl
theorem dJ0_isLatin1_aae02_3 : decode cJ0_isLatin1_aae02 3 = .ok (.ifCond .eq 14, 3) := by decide +kernel
theorem dJ0_isLatin1_aae02_6 : decode cJ0_isLatin1_aae02 6 = .ok (.aload_n 0, 1) := by decide +kernel
theorem dJ0_isLatin1_aae02_7 : decode cJ0_isLatin1_aae02 7 = .ok (.getfield 15, 3) := by decide +kernel
theorem u_415 : Cond.fieldLink RJ0 15 "java/lang/String" "coder" "B" ∈ UW := uw 415 (by decide +kernel) rfl
theorem dJ0_isLatin1_aae02_10 : decode cJ0_isLatin1_aae02 10 = .ok (.ifCond .ne 7, 3) := by decide +kernel
theorem dJ0_isLatin1_aae02_13 : decode cJ0_isLatin1_aae02 13 = .ok (.iconst 1, 1) := by decide +kernel
theorem dJ0_isLatin1_aae02_14 : decode cJ0_isLatin1_aae02 14 = .ok (.goto 4, 3) := by decide +kernel
theorem dJ0_isLatin1_aae02_18 : decode cJ0_isLatin1_aae02 18 = .ok (.ireturn, 1) := by decide +kernel
def f_J0_isLatin1_aae02 (tj : Nat) : Int32 := (1 : Int32)
set_option maxHeartbeats 4000000 in
set_option maxRecDepth 100000 in
theorem c_J0_isLatin1_aae02 (l : Launch) (G : GG)  (tj : Nat) (hyp_tj : sOK tj) : rMet l yJ0_isLatin1_aae02 cJ0_isLatin1_aae02 1 (some .boolean) 1 G (fl []) [.ref (G.2.2.1 (10 + tj))] (some (.int (f_J0_isLatin1_aae02 tj))) (narrow .boolean (.int (f_J0_isLatin1_aae02 tj)) = .int (f_J0_isLatin1_aae02 tj)) := by
  refine r_start (by decide +kernel) (Nat.le_of_ble_eq_true rfl) ?_
  intro p e s m below meth c hx hb hr hml hts hown hlk hP hK hST ls hl
  have hS : va_S (fun _ => False) s.heap s.heap [] := va_S.rf
  have hown : s.vm.findClass RJ0 = some m.cls := hown
  have hl : lv_has ls 1 [(0, .ref (G.2.2.1 (10 + tj)))] := hl
  have hF : f_J0_isLatin1_aae02 tj = (1 : Int32) := rfl
  refine va_gets (v := .int (1 : Int32)) hx hb hST.compact hS hown (hts _ u_284) (fun _ h9 => h9) dJ0_isLatin1_aae02_0 ?_
  refine lv_if_eq (tgt := 17) hx hb dJ0_isLatin1_aae02_3 (by decide) (fun c_1 => ?_) (fun c_1 => ?_)
  · exact absurd c_1 (by decide)
  · refine lv_aload_n hx hb dJ0_isLatin1_aae02_6 rfl (lv_at hl 0 rfl) ?_
    refine vk_getf (v := .int (0 : Int32)) hx hb (hST.strF hyp_tj).2.1 hS hown (hts _ u_415) (fun _ h9 => h9) dJ0_isLatin1_aae02_7 ?_
    refine lv_if_ne (tgt := 17) hx hb dJ0_isLatin1_aae02_10 (by decide) (fun c_2 => ?_) (fun c_2 => ?_)
    · exact absurd c_2 (by decide)
    · refine lv_iconst (v := (1 : Int32)) hx hb dJ0_isLatin1_aae02_13 (by decide) ?_
      refine lv_goto (tgt := 18) hx hb dJ0_isLatin1_aae02_14 (by decide) ?_
      exact r_ret hx hb hr hlk rfl (by rw [hF]) (by rw [hF]; exact (rfl : narrow .boolean (.int (1 : Int32)) = .int (1 : Int32))) dJ0_isLatin1_aae02_18
theorem dJ0_coder_7d493_0 : decode cJ0_coder_7d493 0 = .ok (.getstatic 38, 3) := by decide +kernel
theorem dJ0_coder_7d493_3 : decode cJ0_coder_7d493 3 = .ok (.ifCond .eq 10, 3) := by decide +kernel
theorem dJ0_coder_7d493_6 : decode cJ0_coder_7d493 6 = .ok (.aload_n 0, 1) := by decide +kernel
theorem dJ0_coder_7d493_7 : decode cJ0_coder_7d493 7 = .ok (.getfield 15, 3) := by decide +kernel
theorem dJ0_coder_7d493_10 : decode cJ0_coder_7d493 10 = .ok (.goto 4, 3) := by decide +kernel
theorem dJ0_coder_7d493_14 : decode cJ0_coder_7d493 14 = .ok (.ireturn, 1) := by decide +kernel
def f_J0_coder_7d493 (tj : Nat) : Int32 := (0 : Int32)
set_option maxHeartbeats 4000000 in
set_option maxRecDepth 100000 in
theorem c_J0_coder_7d493 (l : Launch) (G : GG)  (tj : Nat) (hyp_tj : sOK tj) : rMet l yJ0_coder_7d493 cJ0_coder_7d493 1 (some .byte) 1 G (fl []) [.ref (G.2.2.1 (10 + tj))] (some (.int (f_J0_coder_7d493 tj))) (True) := by
  refine r_start (by decide +kernel) (Nat.le_of_ble_eq_true rfl) ?_
  intro p e s m below meth c hx hb hr hml hts hown hlk hP hK hST ls hl
  have hS : va_S (fun _ => False) s.heap s.heap [] := va_S.rf
  have hown : s.vm.findClass RJ0 = some m.cls := hown
  have hl : lv_has ls 1 [(0, .ref (G.2.2.1 (10 + tj)))] := hl
  have hF : f_J0_coder_7d493 tj = (0 : Int32) := rfl
  refine va_gets (v := .int (1 : Int32)) hx hb hST.compact hS hown (hts _ u_284) (fun _ h9 => h9) dJ0_coder_7d493_0 ?_
  refine lv_if_eq (tgt := 13) hx hb dJ0_coder_7d493_3 (by decide) (fun c_1 => ?_) (fun c_1 => ?_)
  · exact absurd c_1 (by decide)
  · refine lv_aload_n hx hb dJ0_coder_7d493_6 rfl (lv_at hl 0 rfl) ?_
    refine vk_getf (v := .int (0 : Int32)) hx hb (hST.strF hyp_tj).2.1 hS hown (hts _ u_415) (fun _ h9 => h9) dJ0_coder_7d493_7 ?_
    refine lv_goto (tgt := 14) hx hb dJ0_coder_7d493_10 (by decide) ?_
    exact r_ret hx hb hr hlk rfl (by rw [hF]) trivial dJ0_coder_7d493_14
theorem dJ0_length_8abf5_0 : decode cJ0_length_8abf5 0 = .ok (.aload_n 0, 1) := by decide +kernel
theorem dJ0_length_8abf5_1 : decode cJ0_length_8abf5 1 = .ok (.getfield 9, 3) := by decide +kernel
theorem u_414 : Cond.fieldLink RJ0 9 "java/lang/String" "value" "[B" ∈ UW := uw 414 (by decide +kernel) rfl
theorem dJ0_length_8abf5_4 : decode cJ0_length_8abf5 4 = .ok (.arraylength, 1) := by decide +kernel
theorem dJ0_length_8abf5_5 : decode cJ0_length_8abf5 5 = .ok (.aload_n 0, 1) := by decide +kernel
theorem dJ0_length_8abf5_6 : decode cJ0_length_8abf5 6 = .ok (.invokevirtual 335, 3) := by decide +kernel
theorem u_280 : Cond.methodLink RJ0 335 yJ0_coder_7d493 ∈ UW := uw 280 (by decide +kernel) rfl
theorem u_281 : Cond.instanceMethod yJ0_coder_7d493 ∈ UW := uw 281 (by decide +kernel) rfl
theorem u_282 : Cond.selects RJ0 yJ0_coder_7d493 yJ0_coder_7d493 ∈ UW := uw 282 (by decide +kernel) rfl
theorem u_31 : Cond.initialized RJ0 ∈ UW := uw 31 (by decide +kernel) rfl
theorem u_283 : Cond.code yJ0_coder_7d493 cJ0_coder_7d493 1 (some .byte) ∈ UW := uw 283 (by decide +kernel) rfl
theorem g_J0_335 : GoodIn UW (wsV RJ0 335 RJ0 yJ0_coder_7d493 (wsU yJ0_coder_7d493 cJ0_coder_7d493 1 (some .byte))) := gV u_280 u_281 u_282 u_31 u_283
theorem hdv_J0_coder_7d493 : yJ0_coder_7d493.cls = RJ0 ∧ yJ0_coder_7d493.cls ≠ "java/lang/invoke/MethodHandle" ∧ yJ0_coder_7d493.cls ≠ "java/lang/invoke/VarHandle" ∧ (parseMethodDescriptor yJ0_coder_7d493.desc).map (fun d => d.parameters.length) = some 0 := by decide +kernel
theorem dJ0_length_8abf5_9 : decode cJ0_length_8abf5 9 = .ok (.ishr, 1) := by decide +kernel
theorem dJ0_length_8abf5_10 : decode cJ0_length_8abf5 10 = .ok (.ireturn, 1) := by decide +kernel
def f_J0_length_8abf5 (tj : Nat) : Int32 := (nI (strL.getD tj []).length)
set_option maxHeartbeats 4000000 in
set_option maxRecDepth 100000 in
theorem c_J0_length_8abf5 (l : Launch) (G : GG)  (tj : Nat) (hyp_tj : sOK tj) : rMet l yJ0_length_8abf5 cJ0_length_8abf5 1 (some .int) 2 G (fl []) [.ref (G.2.2.1 (10 + tj))] (some (.int (f_J0_length_8abf5 tj))) (True) := by
  refine r_start (by decide +kernel) (Nat.le_of_ble_eq_true rfl) ?_
  intro p e s m below meth c hx hb hr hml hts hown hlk hP hK hST ls hl
  have hS : va_S (fun _ => False) s.heap s.heap [] := va_S.rf
  have hown : s.vm.findClass RJ0 = some m.cls := hown
  have hl : lv_has ls 1 [(0, .ref (G.2.2.1 (10 + tj)))] := hl
  have hF : f_J0_length_8abf5 tj = (nI (strL.getD tj []).length) := rfl
  refine lv_aload_n hx hb dJ0_length_8abf5_0 rfl (lv_at hl 0 rfl) ?_
  refine vk_getf (v := .ref (G.2.2.2 tj)) hx hb (hST.strF hyp_tj).2.2.1 hS hown (hts _ u_414) (fun _ h9 => h9) dJ0_length_8abf5_1 ?_
  refine va_tlen (v := (nI (strL.getD tj []).length)) hx hb (hST.strF hyp_tj).2.2.2 hS rfl dJ0_length_8abf5_4 ?_
  refine lv_aload_n hx hb dJ0_length_8abf5_5 rfl (lv_at hl 0 rfl) ?_
  refine r_Vs (own := RJ0) (v := (some (.int (0 : Int32)))) (st1 := [.int (0 : Int32), .int (nI (strL.getD tj []).length)]) (As := []) (rest := [.int (nI (strL.getD tj []).length)]) (c_J0_coder_7d493 l G tj hyp_tj) ⟨hx, hb, hml, hown, hts⟩ g_J0_335 hdv_J0_coder_7d493 hK hST hS hP [] rfl (recv_str hST hS hyp_tj) ⟨Nat.le_of_ble_eq_true rfl, Nat.le_of_ble_eq_true rfl⟩ ⟨Nat.le_of_ble_eq_true rfl, Nat.le_of_ble_eq_true rfl⟩ rfl hl.1 rfl (Nat.le_of_ble_eq_true rfl) dJ0_length_8abf5_6 rfl (fun b_1 => ?_)
  refine lv_ishr hx hb dJ0_length_8abf5_9 ?_
  rw [sb_shr0]
  exact r_ret hx hb hr hlk rfl (by rw [hF]) trivial dJ0_length_8abf5_10
theorem dJ3_checkIndex_8e157_0 : decode cJ3_checkIndex_8e157 0 = .ok (.iload_n 0, 1) := by decide +kernel
theorem dJ3_checkIndex_8e157_1 : decode cJ3_checkIndex_8e157 1 = .ok (.ifCond .lt 8, 3) := by decide +kernel
theorem dJ3_checkIndex_8e157_4 : decode cJ3_checkIndex_8e157 4 = .ok (.iload_n 0, 1) := by decide +kernel
theorem dJ3_checkIndex_8e157_5 : decode cJ3_checkIndex_8e157 5 = .ok (.iload_n 1, 1) := by decide +kernel
theorem dJ3_checkIndex_8e157_6 : decode cJ3_checkIndex_8e157 6 = .ok (.if_icmp .lt 10, 3) := by decide +kernel
theorem dJ3_checkIndex_8e157_16 : decode cJ3_checkIndex_8e157 16 = .ok (.iload_n 0, 1) := by decide +kernel
theorem dJ3_checkIndex_8e157_17 : decode cJ3_checkIndex_8e157 17 = .ok (.ireturn, 1) := by decide +kernel
def f_J3_checkIndex_8e157 (x : Int32) (y : Int32) : Int32 := (if x < (0 : Int32) then 0 else (if x < y then x else 0))
def ok_J3_checkIndex_8e157 (x : Int32) (y : Int32) : Prop := (if x < (0 : Int32) then False else (if x < y then True else False))
set_option maxHeartbeats 4000000 in
set_option maxRecDepth 100000 in
theorem c_J3_checkIndex_8e157 (l : Launch) (G : GG)  (x : Int32) (y : Int32) (hok : ok_J3_checkIndex_8e157 x y) : rMet l yJ3_checkIndex_8e157 cJ3_checkIndex_8e157 3 (some .int) 1 G (fl []) [.int x, .int y, .null] (some (.int (f_J3_checkIndex_8e157 x y))) (True) := by
  refine r_start (by decide +kernel) (Nat.le_of_ble_eq_true rfl) ?_
  intro p e s m below meth c hx hb hr hml hts hown hlk hP hK hST ls hl
  have hS : va_S (fun _ => False) s.heap s.heap [] := va_S.rf
  have hown : s.vm.findClass RJ3 = some m.cls := hown
  have hl : lv_has ls 3 [(0, .int x), (1, .int y), (2, .null)] := hl
  have hF : f_J3_checkIndex_8e157 x y = (if x < (0 : Int32) then 0 else (if x < y then x else 0)) := rfl
  have hok : (if x < (0 : Int32) then False else (if x < y then True else False)) := hok
  refine lv_iload_n hx hb dJ3_checkIndex_8e157_0 rfl (lv_at hl 0 rfl) ?_
  refine lv_if_lt (tgt := 9) hx hb dJ3_checkIndex_8e157_1 (by decide) (fun c_1 => ?_) (fun c_1 => ?_)
  · have hF := hF.trans (if_pos c_1)
    have hok := Eq.mp (if_pos c_1) hok
    exact hok.elim
  · have hF := hF.trans (if_neg c_1)
    have hok := Eq.mp (if_neg c_1) hok
    refine lv_iload_n hx hb dJ3_checkIndex_8e157_4 rfl (lv_at hl 0 rfl) ?_
    refine lv_iload_n hx hb dJ3_checkIndex_8e157_5 rfl (lv_at hl 1 rfl) ?_
    refine lv_icmp_lt (tgt := 16) hx hb dJ3_checkIndex_8e157_6 (by decide) (fun c_2 => ?_) (fun c_2 => ?_)
    · have hF := hF.trans (if_pos c_2)
      have hok := Eq.mp (if_pos c_2) hok
      refine lv_iload_n hx hb dJ3_checkIndex_8e157_16 rfl (lv_at hl 0 rfl) ?_
      exact r_ret hx hb hr hlk rfl (by rw [hF]) trivial dJ3_checkIndex_8e157_17
    · have hF := hF.trans (if_neg c_2)
      have hok := Eq.mp (if_neg c_2) hok
      exact hok.elim
set_option maxHeartbeats 4000000 in
set_option maxRecDepth 100000 in
theorem c_J3_checkIndex_8e1572 (l : Launch) (G : GG) (fm : Nat) (x : Int32) (y : Int32) (hok : ok_J3_checkIndex_8e157 x y) : rMet l yJ3_checkIndex_8e157 cJ3_checkIndex_8e157 3 (some .int) 1 G (fl []) [.int x, .int y, .ref fm] (some (.int (f_J3_checkIndex_8e157 x y))) (True) := by
  refine r_start (by decide +kernel) (Nat.le_of_ble_eq_true rfl) ?_
  intro p e s m below meth c hx hb hr hml hts hown hlk hP hK hST ls hl
  have hS : va_S (fun _ => False) s.heap s.heap [] := va_S.rf
  have hown : s.vm.findClass RJ3 = some m.cls := hown
  have hl : lv_has ls 3 [(0, .int x), (1, .int y), (2, .ref fm)] := hl
  have hF : f_J3_checkIndex_8e157 x y = (if x < (0 : Int32) then 0 else (if x < y then x else 0)) := rfl
  have hok : (if x < (0 : Int32) then False else (if x < y then True else False)) := hok
  refine lv_iload_n hx hb dJ3_checkIndex_8e157_0 rfl (lv_at hl 0 rfl) ?_
  refine lv_if_lt (tgt := 9) hx hb dJ3_checkIndex_8e157_1 (by decide) (fun c_1 => ?_) (fun c_1 => ?_)
  · have hF := hF.trans (if_pos c_1)
    have hok := Eq.mp (if_pos c_1) hok
    exact hok.elim
  · have hF := hF.trans (if_neg c_1)
    have hok := Eq.mp (if_neg c_1) hok
    refine lv_iload_n hx hb dJ3_checkIndex_8e157_4 rfl (lv_at hl 0 rfl) ?_
    refine lv_iload_n hx hb dJ3_checkIndex_8e157_5 rfl (lv_at hl 1 rfl) ?_
    refine lv_icmp_lt (tgt := 16) hx hb dJ3_checkIndex_8e157_6 (by decide) (fun c_2 => ?_) (fun c_2 => ?_)
    · have hF := hF.trans (if_pos c_2)
      have hok := Eq.mp (if_pos c_2) hok
      refine lv_iload_n hx hb dJ3_checkIndex_8e157_16 rfl (lv_at hl 0 rfl) ?_
      exact r_ret hx hb hr hlk rfl (by rw [hF]) trivial dJ3_checkIndex_8e157_17
    · have hF := hF.trans (if_neg c_2)
      have hok := Eq.mp (if_neg c_2) hok
      exact hok.elim
theorem dJ0_checkIndex_df160_0 : decode cJ0_checkIndex_df160 0 = .ok (.iload_n 0, 1) := by decide +kernel
theorem dJ0_checkIndex_df160_1 : decode cJ0_checkIndex_df160 1 = .ok (.iload_n 1, 1) := by decide +kernel
theorem dJ0_checkIndex_df160_2 : decode cJ0_checkIndex_df160 2 = .ok (.getstatic 1053, 3) := by decide +kernel
theorem dJ0_checkIndex_df160_5 : decode cJ0_checkIndex_df160 5 = .ok (.invokestatic 1059, 3) := by decide +kernel
theorem u_491 : Cond.methodLink RJ0 1059 yJ3_checkIndex_8e157 ∈ UW := uw 491 (by decide +kernel) rfl
theorem u_492 : Cond.static yJ3_checkIndex_8e157 ∈ UW := uw 492 (by decide +kernel) rfl
theorem u_52 : Cond.initialized RJ3 ∈ UW := uw 52 (by decide +kernel) rfl
theorem u_493 : Cond.code yJ3_checkIndex_8e157 cJ3_checkIndex_8e157 3 (some .int) ∈ UW := uw 493 (by decide +kernel) rfl
theorem g_J0_1059 : GoodIn UW (va_wsS RJ0 1059 yJ3_checkIndex_8e157 (wsU yJ3_checkIndex_8e157 cJ3_checkIndex_8e157 3 (some .int))) := gS u_491 u_492 u_52 u_493
theorem hds_J3_checkIndex_8e157 : yJ3_checkIndex_8e157.cls ≠ "java/lang/invoke/MethodHandle" ∧ yJ3_checkIndex_8e157.cls ≠ "java/lang/invoke/VarHandle" ∧ (parseMethodDescriptor yJ3_checkIndex_8e157.desc).map (fun d => d.parameters.length) = some 3 := by decide +kernel
theorem dJ0_checkIndex_df160_8 : decode cJ0_checkIndex_df160 8 = .ok (.pop, 1) := by decide +kernel
theorem dJ0_checkIndex_df160_9 : decode cJ0_checkIndex_df160 9 = .ok (.return_, 1) := by decide +kernel
theorem u_262 : Cond.fieldLink RJ0 1053 "jdk/internal/util/Preconditions" "SIOOBE_FORMATTER" "Ljava/util/function/BiFunction;" ∈ UW := uw 262 (by decide +kernel) rfl
def f_J0_checkIndex_df160 (x : Int32) (y : Int32) : Unit := ()
def ok_J0_checkIndex_df160 (x : Int32) (y : Int32) : Prop := (ok_J3_checkIndex_8e157 x y ∧ True)
set_option maxHeartbeats 4000000 in
set_option maxRecDepth 100000 in
theorem c_J0_checkIndex_df160 (l : Launch) (G : GG)  (x : Int32) (y : Int32) (hok : ok_J0_checkIndex_df160 x y) : rMet l yJ0_checkIndex_df160 cJ0_checkIndex_df160 2 none 2 G (fl []) [.int x, .int y] (none) (True) := by
  refine r_start (by decide +kernel) (Nat.le_of_ble_eq_true rfl) ?_
  intro p e s m below meth c hx hb hr hml hts hown hlk hP hK hST ls hl
  have hS : va_S (fun _ => False) s.heap s.heap [] := va_S.rf
  have hown : s.vm.findClass RJ0 = some m.cls := hown
  have hl : lv_has ls 2 [(0, .int x), (1, .int y)] := hl
  have hF : f_J0_checkIndex_df160 x y = () := rfl
  have hok : (ok_J3_checkIndex_8e157 x y ∧ True) := hok
  refine lv_iload_n hx hb dJ0_checkIndex_df160_0 rfl (lv_at hl 0 rfl) ?_
  refine lv_iload_n hx hb dJ0_checkIndex_df160_1 rfl (lv_at hl 1 rfl) ?_
  rcases hST.fmt with hz | ⟨tz, hz⟩
  · refine va_gets (v := .null) hx hb hz hS hown (hts _ u_262) (fun _ h9 => h9) dJ0_checkIndex_df160_2 ?_
    have k_1 := hok.1
    have hok := hok.2
    refine r_S (own := RJ0) (v := (some (.int (f_J3_checkIndex_8e157 x y)))) (st1 := [.int (f_J3_checkIndex_8e157 x y)]) (As := [.int x, .int y, .null]) (rest := []) (c_J3_checkIndex_8e157 l G x y k_1) ⟨hx, hb, hml, hown, hts⟩ g_J0_1059 hds_J3_checkIndex_8e157 hK hST hS hP [] rfl ⟨Nat.le_of_ble_eq_true rfl, Nat.le_of_ble_eq_true rfl⟩ ⟨Nat.le_of_ble_eq_true rfl, Nat.le_of_ble_eq_true rfl⟩ rfl hl.1 rfl (Nat.le_of_ble_eq_true rfl) dJ0_checkIndex_df160_5 rfl (fun b_2 => ?_)
    refine lv_pop hx hb dJ0_checkIndex_df160_8 rfl ?_
    exact r_retV hx hb hr hlk trivial dJ0_checkIndex_df160_9
  · refine va_gets (v := .ref tz) hx hb hz hS hown (hts _ u_262) (fun _ h9 => h9) dJ0_checkIndex_df160_2 ?_
    have k_3 := hok.1
    have hok := hok.2
    refine r_S (own := RJ0) (v := (some (.int (f_J3_checkIndex_8e157 x y)))) (st1 := [.int (f_J3_checkIndex_8e157 x y)]) (As := [.int x, .int y, .ref tz]) (rest := []) (c_J3_checkIndex_8e1572 l G tz x y k_3) ⟨hx, hb, hml, hown, hts⟩ g_J0_1059 hds_J3_checkIndex_8e157 hK hST hS hP [] rfl ⟨Nat.le_of_ble_eq_true rfl, Nat.le_of_ble_eq_true rfl⟩ ⟨Nat.le_of_ble_eq_true rfl, Nat.le_of_ble_eq_true rfl⟩ rfl hl.1 rfl (Nat.le_of_ble_eq_true rfl) dJ0_checkIndex_df160_5 rfl (fun b_4 => ?_)
    refine lv_pop hx hb dJ0_checkIndex_df160_8 rfl ?_
    exact r_retV hx hb hr hlk trivial dJ0_checkIndex_df160_9
theorem dJ1_charAt_3b067_0 : decode cJ1_charAt_3b067 0 = .ok (.iload_n 1, 1) := by decide +kernel
theorem dJ1_charAt_3b067_1 : decode cJ1_charAt_3b067 1 = .ok (.aload_n 0, 1) := by decide +kernel
theorem dJ1_charAt_3b067_2 : decode cJ1_charAt_3b067 2 = .ok (.arraylength, 1) := by decide +kernel
theorem dJ1_charAt_3b067_3 : decode cJ1_charAt_3b067 3 = .ok (.invokestatic 9, 3) := by decide +kernel
theorem u_1279 : Cond.methodLink RJ1 9 yJ0_checkIndex_df160 ∈ UW := uw 1279 (by decide +kernel) rfl
theorem u_489 : Cond.static yJ0_checkIndex_df160 ∈ UW := uw 489 (by decide +kernel) rfl
theorem u_490 : Cond.code yJ0_checkIndex_df160 cJ0_checkIndex_df160 2 none ∈ UW := uw 490 (by decide +kernel) rfl
theorem g_J1_9 : GoodIn UW (va_wsS RJ1 9 yJ0_checkIndex_df160 (wsU yJ0_checkIndex_df160 cJ0_checkIndex_df160 2 none)) := gS u_1279 u_489 u_31 u_490
theorem hds_J0_checkIndex_df160 : yJ0_checkIndex_df160.cls ≠ "java/lang/invoke/MethodHandle" ∧ yJ0_checkIndex_df160.cls ≠ "java/lang/invoke/VarHandle" ∧ (parseMethodDescriptor yJ0_checkIndex_df160.desc).map (fun d => d.parameters.length) = some 2 := by decide +kernel
theorem dJ1_charAt_3b067_6 : decode cJ1_charAt_3b067 6 = .ok (.aload_n 0, 1) := by decide +kernel
theorem dJ1_charAt_3b067_7 : decode cJ1_charAt_3b067 7 = .ok (.iload_n 1, 1) := by decide +kernel
theorem dJ1_charAt_3b067_8 : decode cJ1_charAt_3b067 8 = .ok (.baload, 1) := by decide +kernel
theorem dJ1_charAt_3b067_9 : decode cJ1_charAt_3b067 9 = .ok (.sipush 255, 3) := by decide +kernel
theorem dJ1_charAt_3b067_12 : decode cJ1_charAt_3b067 12 = .ok (.iand, 1) := by decide +kernel
theorem dJ1_charAt_3b067_13 : decode cJ1_charAt_3b067 13 = .ok (.i2c, 1) := by decide +kernel
theorem dJ1_charAt_3b067_14 : decode cJ1_charAt_3b067 14 = .ok (.ireturn, 1) := by decide +kernel
def f_J1_charAt_3b067 (tj : Nat) (x : Int32) : Int32 := (((nI ((strL.getD tj []).getD x.toNatClampNeg 0)) &&& (255 : Int32)).toUInt32 % 65536).toInt32
def ok_J1_charAt_3b067 (tj : Nat) (x : Int32) : Prop := (ok_J0_checkIndex_df160 x (nI (strL.getD tj []).length) ∧ (vp_in x (strL.getD tj []).length ∧ True))
set_option maxHeartbeats 4000000 in
set_option maxRecDepth 100000 in
theorem c_J1_charAt_3b067 (l : Launch) (G : GG)  (tj : Nat) (x : Int32) (hok : ok_J1_charAt_3b067 tj x) (hyp_tj : sOK tj) : rMet l yJ1_charAt_3b067 cJ1_charAt_3b067 2 (some .char) 3 G (fl []) [.ref (G.2.2.2 tj), .int x] (some (.int (f_J1_charAt_3b067 tj x))) (narrow .char (.int (f_J1_charAt_3b067 tj x)) = .int (f_J1_charAt_3b067 tj x)) := by
  refine r_start (by decide +kernel) (Nat.le_of_ble_eq_true rfl) ?_
  intro p e s m below meth c hx hb hr hml hts hown hlk hP hK hST ls hl
  have hS : va_S (fun _ => False) s.heap s.heap [] := va_S.rf
  have hown : s.vm.findClass RJ1 = some m.cls := hown
  have hl : lv_has ls 2 [(0, .ref (G.2.2.2 tj)), (1, .int x)] := hl
  have hF : f_J1_charAt_3b067 tj x = (((nI ((strL.getD tj []).getD x.toNatClampNeg 0)) &&& (255 : Int32)).toUInt32 % 65536).toInt32 := rfl
  have hok : (ok_J0_checkIndex_df160 x (nI (strL.getD tj []).length) ∧ (vp_in x (strL.getD tj []).length ∧ True)) := hok
  refine lv_iload_n hx hb dJ1_charAt_3b067_0 rfl (lv_at hl 1 rfl) ?_
  refine lv_aload_n hx hb dJ1_charAt_3b067_1 rfl (lv_at hl 0 rfl) ?_
  refine va_tlen (v := (nI (strL.getD tj []).length)) hx hb (hST.strF hyp_tj).2.2.2 hS rfl dJ1_charAt_3b067_2 ?_
  have k_1 := hok.1
  have hok := hok.2
  refine r_S (own := RJ1) (v := none) (st1 := []) (As := [.int x, .int (nI (strL.getD tj []).length)]) (rest := []) (c_J0_checkIndex_df160 l G x (nI (strL.getD tj []).length) k_1) ⟨hx, hb, hml, hown, hts⟩ g_J1_9 hds_J0_checkIndex_df160 hK hST hS hP [] rfl ⟨Nat.le_of_ble_eq_true rfl, Nat.le_of_ble_eq_true rfl⟩ ⟨Nat.le_of_ble_eq_true rfl, Nat.le_of_ble_eq_true rfl⟩ rfl hl.1 rfl (Nat.le_of_ble_eq_true rfl) dJ1_charAt_3b067_3 rfl (fun b_2 => ?_)
  refine lv_aload_n hx hb dJ1_charAt_3b067_6 rfl (lv_at hl 0 rfl) ?_
  refine lv_iload_n hx hb dJ1_charAt_3b067_7 rfl (lv_at hl 1 rfl) ?_
  have h_3 := hok.1
  have hok := hok.2
  refine va_tb hx hb (hST.strF hyp_tj).2.2.2 hS h_3 (v := .int (nI ((strL.getD tj []).getD x.toNatClampNeg 0))) rfl dJ1_charAt_3b067_8 ?_
  refine lv_sipush (v := (255 : Int32)) hx hb dJ1_charAt_3b067_9 (by decide) ?_
  refine lv_iand hx hb dJ1_charAt_3b067_12 ?_
  refine lv_i2c hx hb dJ1_charAt_3b067_13 rfl ?_
  exact r_ret hx hb hr hlk (pk_nc _) (by rw [hF]) (by rw [hF]; exact ((pk_nc _) : narrow .char (.int ((((nI ((strL.getD tj []).getD x.toNatClampNeg 0)) &&& (255 : Int32)).toUInt32 % 65536).toInt32)) = .int ((((nI ((strL.getD tj []).getD x.toNatClampNeg 0)) &&& (255 : Int32)).toUInt32 % 65536).toInt32))) dJ1_charAt_3b067_14
theorem dJ0_charAt_5068e_0 : decode cJ0_charAt_5068e 0 = .ok (.aload_n 0, 1) := by decide +kernel
theorem dJ0_charAt_5068e_1 : decode cJ0_charAt_5068e 1 = .ok (.invokevirtual 492, 3) := by decide +kernel
theorem u_1272 : Cond.methodLink RJ0 492 yJ0_isLatin1_aae02 ∈ UW := uw 1272 (by decide +kernel) rfl
theorem u_1273 : Cond.instanceMethod yJ0_isLatin1_aae02 ∈ UW := uw 1273 (by decide +kernel) rfl
theorem u_1274 : Cond.selects RJ0 yJ0_isLatin1_aae02 yJ0_isLatin1_aae02 ∈ UW := uw 1274 (by decide +kernel) rfl
theorem u_1275 : Cond.code yJ0_isLatin1_aae02 cJ0_isLatin1_aae02 1 (some .boolean) ∈ UW := uw 1275 (by decide +kernel) rfl
theorem g_J0_492 : GoodIn UW (wsV RJ0 492 RJ0 yJ0_isLatin1_aae02 (wsU yJ0_isLatin1_aae02 cJ0_isLatin1_aae02 1 (some .boolean))) := gV u_1272 u_1273 u_1274 u_31 u_1275
theorem hdv_J0_isLatin1_aae02 : yJ0_isLatin1_aae02.cls = RJ0 ∧ yJ0_isLatin1_aae02.cls ≠ "java/lang/invoke/MethodHandle" ∧ yJ0_isLatin1_aae02.cls ≠ "java/lang/invoke/VarHandle" ∧ (parseMethodDescriptor yJ0_isLatin1_aae02.desc).map (fun d => d.parameters.length) = some 0 := by decide +kernel
theorem dJ0_charAt_5068e_4 : decode cJ0_charAt_5068e 4 = .ok (.ifCond .eq 12, 3) := by decide +kernel
theorem dJ0_charAt_5068e_7 : decode cJ0_charAt_5068e 7 = .ok (.aload_n 0, 1) := by decide +kernel
theorem dJ0_charAt_5068e_8 : decode cJ0_charAt_5068e 8 = .ok (.getfield 9, 3) := by decide +kernel
theorem dJ0_charAt_5068e_11 : decode cJ0_charAt_5068e 11 = .ok (.iload_n 1, 1) := by decide +kernel
theorem dJ0_charAt_5068e_12 : decode cJ0_charAt_5068e 12 = .ok (.invokestatic 495, 3) := by decide +kernel
theorem u_1276 : Cond.methodLink RJ0 495 yJ1_charAt_3b067 ∈ UW := uw 1276 (by decide +kernel) rfl
theorem u_1277 : Cond.static yJ1_charAt_3b067 ∈ UW := uw 1277 (by decide +kernel) rfl
theorem u_53 : Cond.initialized RJ1 ∈ UW := uw 53 (by decide +kernel) rfl
theorem u_1278 : Cond.code yJ1_charAt_3b067 cJ1_charAt_3b067 2 (some .char) ∈ UW := uw 1278 (by decide +kernel) rfl
theorem g_J0_495 : GoodIn UW (va_wsS RJ0 495 yJ1_charAt_3b067 (wsU yJ1_charAt_3b067 cJ1_charAt_3b067 2 (some .char))) := gS u_1276 u_1277 u_53 u_1278
theorem hds_J1_charAt_3b067 : yJ1_charAt_3b067.cls ≠ "java/lang/invoke/MethodHandle" ∧ yJ1_charAt_3b067.cls ≠ "java/lang/invoke/VarHandle" ∧ (parseMethodDescriptor yJ1_charAt_3b067.desc).map (fun d => d.parameters.length) = some 2 := by decide +kernel
theorem dJ0_charAt_5068e_15 : decode cJ0_charAt_5068e 15 = .ok (.ireturn, 1) := by decide +kernel
def f_J0_charAt_5068e (tj : Nat) (x : Int32) : Int32 := (f_J1_charAt_3b067 tj x)
def ok_J0_charAt_5068e (tj : Nat) (x : Int32) : Prop := (ok_J1_charAt_3b067 tj x ∧ True)
set_option maxHeartbeats 4000000 in
set_option maxRecDepth 100000 in
theorem c_J0_charAt_5068e (l : Launch) (G : GG)  (tj : Nat) (x : Int32) (hok : ok_J0_charAt_5068e tj x) (hyp_tj : sOK tj) : rMet l yJ0_charAt_5068e cJ0_charAt_5068e 2 (some .char) 4 G (fl []) [.ref (G.2.2.1 (10 + tj)), .int x] (some (.int (f_J0_charAt_5068e tj x))) (narrow .char (.int (f_J0_charAt_5068e tj x)) = .int (f_J0_charAt_5068e tj x)) := by
  refine r_start (by decide +kernel) (Nat.le_of_ble_eq_true rfl) ?_
  intro p e s m below meth c hx hb hr hml hts hown hlk hP hK hST ls hl
  have hS : va_S (fun _ => False) s.heap s.heap [] := va_S.rf
  have hown : s.vm.findClass RJ0 = some m.cls := hown
  have hl : lv_has ls 2 [(0, .ref (G.2.2.1 (10 + tj))), (1, .int x)] := hl
  have hF : f_J0_charAt_5068e tj x = (f_J1_charAt_3b067 tj x) := rfl
  have hok : (ok_J1_charAt_3b067 tj x ∧ True) := hok
  refine lv_aload_n hx hb dJ0_charAt_5068e_0 rfl (lv_at hl 0 rfl) ?_
  refine r_Vs (own := RJ0) (v := (some (.int (1 : Int32)))) (st1 := [.int (1 : Int32)]) (As := []) (rest := []) (c_J0_isLatin1_aae02 l G tj hyp_tj) ⟨hx, hb, hml, hown, hts⟩ g_J0_492 hdv_J0_isLatin1_aae02 hK hST hS hP [] rfl (recv_str hST hS hyp_tj) ⟨Nat.le_of_ble_eq_true rfl, Nat.le_of_ble_eq_true rfl⟩ ⟨Nat.le_of_ble_eq_true rfl, Nat.le_of_ble_eq_true rfl⟩ rfl hl.1 rfl (Nat.le_of_ble_eq_true rfl) dJ0_charAt_5068e_1 rfl (fun b_1 => ?_)
  refine lv_if_eq (tgt := 16) hx hb dJ0_charAt_5068e_4 (by decide) (fun c_2 => ?_) (fun c_2 => ?_)
  · exact absurd c_2 (by decide)
  · refine lv_aload_n hx hb dJ0_charAt_5068e_7 rfl (lv_at hl 0 rfl) ?_
    refine vk_getf (v := .ref (G.2.2.2 tj)) hx hb (hST.strF hyp_tj).2.2.1 hS hown (hts _ u_414) (fun _ h9 => h9) dJ0_charAt_5068e_8 ?_
    refine lv_iload_n hx hb dJ0_charAt_5068e_11 rfl (lv_at hl 1 rfl) ?_
    have k_3 := hok.1
    have hok := hok.2
    refine r_S (own := RJ0) (v := (some (.int (f_J1_charAt_3b067 tj x)))) (st1 := [.int (f_J1_charAt_3b067 tj x)]) (As := [.ref (G.2.2.2 tj), .int x]) (rest := []) (c_J1_charAt_3b067 l G tj x k_3 hyp_tj) ⟨hx, hb, hml, hown, hts⟩ g_J0_495 hds_J1_charAt_3b067 hK hST hS hP [] rfl ⟨Nat.le_of_ble_eq_true rfl, Nat.le_of_ble_eq_true rfl⟩ ⟨Nat.le_of_ble_eq_true rfl, Nat.le_of_ble_eq_true rfl⟩ rfl hl.1 rfl (Nat.le_of_ble_eq_true rfl) dJ0_charAt_5068e_12 rfl (fun b_4 => ?_)
    exact r_ret hx hb hr hlk b_4 (by rw [hF]) (by rw [hF]; exact (b_4 : narrow .char (.int (f_J1_charAt_3b067 tj x)) = .int (f_J1_charAt_3b067 tj x))) dJ0_charAt_5068e_15
theorem dJ5_length_8abf5_0 : decode cJ5_length_8abf5 0 = .ok (.aload_n 0, 1) := by decide +kernel
theorem dJ5_length_8abf5_1 : decode cJ5_length_8abf5 1 = .ok (.getfield 79, 3) := by decide +kernel
theorem uws_J4 : ∀ w ∈ wsJ40, w ∈ UW := uw_all [190, 192, 194, 196] (by decide +kernel) (by decide +kernel)
theorem u_189 : Cond.fieldLink RJ5 79 "java/lang/AbstractStringBuilder" "count" "I" ∈ UW := uw 189 (by decide +kernel) rfl
theorem dJ5_length_8abf5_4 : decode cJ5_length_8abf5 4 = .ok (.ireturn, 1) := by decide +kernel
def f_J5_length_8abf5 (sb : SbV) : Int32 := sb.2.2.2
set_option maxHeartbeats 4000000 in
set_option maxRecDepth 100000 in
theorem c_J5_length_8abf5 (l : Launch) (G : GG) (sbh0 : Nat) (sbh1 : Nat) (sb : SbV) : rMet l yJ5_length_8abf5 cJ5_length_8abf5 1 (some .int) 1 G (fl [[(sbh0, .inr (1, [.ref sbh1, .int (0 : Int32), .int sb.2.2.1, .int sb.2.2.2]))], [(sbh1, .inl (G.2.1 2, sb.1, .inl sb.2.1))]]) [.ref sbh0] (some (.int (f_J5_length_8abf5 sb))) (True) := by
  refine r_start (by decide +kernel) (Nat.le_of_ble_eq_true rfl) ?_
  intro p e s m below meth c hx hb hr hml hts hown hlk hP hK hST ls hl
  have hS : va_S (fun _ => False) s.heap s.heap [] := va_S.rf
  have hown : s.vm.findClass RJ5 = some m.cls := hown
  have hl : lv_has ls 1 [(0, .ref sbh0)] := hl
  have hF : f_J5_length_8abf5 sb = sb.2.2.2 := rfl
  refine lv_aload_n hx hb dJ5_length_8abf5_0 rfl (lv_at hl 0 rfl) ?_
  refine va_get (D := G.1) (ci := 1) (v := .int sb.2.2.2) (C := RJ4) (T := TJ4) (N := 4) hx hb hts uws_J4 hown hK hP 0 rfl rfl 3 (by decide) (hts _ u_189) (fun _ h9 => h9) rfl dJ5_length_8abf5_1 ?_
  exact r_ret hx hb hr hlk rfl (by rw [hF]) trivial dJ5_length_8abf5_4
theorem dJ4_length_8abf5_0 : decode cJ4_length_8abf5 0 = .ok (.aload_n 0, 1) := by decide +kernel
theorem dJ4_length_8abf5_1 : decode cJ4_length_8abf5 1 = .ok (.invokespecial 343, 3) := by decide +kernel
theorem u_368 : Cond.methodLink RJ4 343 yJ5_length_8abf5 ∈ UW := uw 368 (by decide +kernel) rfl
theorem u_364 : Cond.sameMethod RJ5 RJ5 "length" "()I" ∈ UW := uw 364 (by decide +kernel) rfl
theorem u_159 : Cond.superclass RJ4 RJ5 ∈ UW := uw 159 (by decide +kernel) rfl
theorem u_363 : Cond.instanceMethod yJ5_length_8abf5 ∈ UW := uw 363 (by decide +kernel) rfl
theorem u_29 : Cond.initialized RJ5 ∈ UW := uw 29 (by decide +kernel) rfl
theorem u_369 : Cond.code yJ5_length_8abf5 cJ5_length_8abf5 1 (some .int) ∈ UW := uw 369 (by decide +kernel) rfl
theorem gSU_J4_343 : GoodIn UW (va_wsSU RJ4 343 yJ5_length_8abf5 (wsU yJ5_length_8abf5 cJ5_length_8abf5 1 (some .int))) := gSU u_368 u_364 u_159 u_363 u_29 u_369
theorem hdsu_J5_length_8abf5 : yJ5_length_8abf5.name ≠ "<init>" ∧ (parseMethodDescriptor yJ5_length_8abf5.desc).map (fun d => d.parameters.length) = some 0 := by decide +kernel
theorem dJ4_length_8abf5_4 : decode cJ4_length_8abf5 4 = .ok (.ireturn, 1) := by decide +kernel
def f_J4_length_8abf5 (sb : SbV) : Int32 := (f_J5_length_8abf5 sb)
set_option maxHeartbeats 4000000 in
set_option maxRecDepth 100000 in
theorem c_J4_length_8abf5 (l : Launch) (G : GG) (sbh0 : Nat) (sbh1 : Nat) (sb : SbV) : rMet l yJ4_length_8abf5 cJ4_length_8abf5 1 (some .int) 2 G (fl [[(sbh0, .inr (1, [.ref sbh1, .int (0 : Int32), .int sb.2.2.1, .int sb.2.2.2]))], [(sbh1, .inl (G.2.1 2, sb.1, .inl sb.2.1))]]) [.ref sbh0] (some (.int (f_J4_length_8abf5 sb))) (True) := by
  refine r_start (by decide +kernel) (Nat.le_of_ble_eq_true rfl) ?_
  intro p e s m below meth c hx hb hr hml hts hown hlk hP hK hST ls hl
  have hS : va_S (fun _ => False) s.heap s.heap [] := va_S.rf
  have hown : s.vm.findClass RJ4 = some m.cls := hown
  have hl : lv_has ls 1 [(0, .ref sbh0)] := hl
  have hF : f_J4_length_8abf5 sb = (f_J5_length_8abf5 sb) := rfl
  refine lv_aload_n hx hb dJ4_length_8abf5_0 rfl (lv_at hl 0 rfl) ?_
  refine r_SU (own := RJ4) (v := (some (.int (f_J5_length_8abf5 sb)))) (st1 := [.int (f_J5_length_8abf5 sb)]) (As := []) (rest := []) (c_J5_length_8abf5 l G sbh0 sbh1 sb) ⟨hx, hb, hml, hown, hts⟩ gSU_J4_343 hdsu_J5_length_8abf5 1 _ rfl rfl hK hST hS hP [0, 1] rfl (va_recv hK hP (ci := 1) (q0 := 0) rfl rfl) ⟨Nat.le_of_ble_eq_true rfl, Nat.le_of_ble_eq_true rfl⟩ ⟨Nat.le_of_ble_eq_true rfl, Nat.le_of_ble_eq_true rfl⟩ rfl hl.1 rfl (Nat.le_of_ble_eq_true rfl) dJ4_length_8abf5_1 rfl (fun b_1 => ?_)
  exact r_ret hx hb hr hlk rfl (by rw [hF]) trivial dJ4_length_8abf5_4
theorem dJ5_isLatin1_aae02_0 : decode cJ5_isLatin1_aae02 0 = .ok (.getstatic 18, 3) := by decide +kernel
theorem u_176 : Cond.fieldLink RJ5 18 "java/lang/String" "COMPACT_STRINGS" "Z" ∈ UW := uw 176 (by decide +kernel) rfl
theorem dJ5_isLatin1_aae02_3 : decode cJ5_isLatin1_aae02 3 = .ok (.ifCond .eq 14, 3) := by decide +kernel
theorem dJ5_isLatin1_aae02_6 : decode cJ5_isLatin1_aae02 6 = .ok (.aload_n 0, 1) := by decide +kernel
theorem dJ5_isLatin1_aae02_7 : decode cJ5_isLatin1_aae02 7 = .ok (.getfield 22, 3) := by decide +kernel
theorem u_186 : Cond.fieldLink RJ5 22 "java/lang/AbstractStringBuilder" "coder" "B" ∈ UW := uw 186 (by decide +kernel) rfl
theorem dJ5_isLatin1_aae02_10 : decode cJ5_isLatin1_aae02 10 = .ok (.ifCond .ne 7, 3) := by decide +kernel
theorem dJ5_isLatin1_aae02_13 : decode cJ5_isLatin1_aae02 13 = .ok (.iconst 1, 1) := by decide +kernel
theorem dJ5_isLatin1_aae02_14 : decode cJ5_isLatin1_aae02 14 = .ok (.goto 4, 3) := by decide +kernel
theorem dJ5_isLatin1_aae02_18 : decode cJ5_isLatin1_aae02 18 = .ok (.ireturn, 1) := by decide +kernel
def f_J5_isLatin1_aae02 (sb : SbV) : Int32 := (1 : Int32)
set_option maxHeartbeats 4000000 in
set_option maxRecDepth 100000 in
theorem c_J5_isLatin1_aae02 (l : Launch) (G : GG) (sbh0 : Nat) (sbh1 : Nat) (sb : SbV) : rMet l yJ5_isLatin1_aae02 cJ5_isLatin1_aae02 1 (some .boolean) 1 G (fl [[(sbh0, .inr (1, [.ref sbh1, .int (0 : Int32), .int sb.2.2.1, .int sb.2.2.2]))], [(sbh1, .inl (G.2.1 2, sb.1, .inl sb.2.1))]]) [.ref sbh0] (some (.int (f_J5_isLatin1_aae02 sb))) (narrow .boolean (.int (f_J5_isLatin1_aae02 sb)) = .int (f_J5_isLatin1_aae02 sb)) := by
  refine r_start (by decide +kernel) (Nat.le_of_ble_eq_true rfl) ?_
  intro p e s m below meth c hx hb hr hml hts hown hlk hP hK hST ls hl
  have hS : va_S (fun _ => False) s.heap s.heap [] := va_S.rf
  have hown : s.vm.findClass RJ5 = some m.cls := hown
  have hl : lv_has ls 1 [(0, .ref sbh0)] := hl
  have hF : f_J5_isLatin1_aae02 sb = (1 : Int32) := rfl
  refine va_gets (v := .int (1 : Int32)) hx hb hST.compact hS hown (hts _ u_176) (fun _ h9 => h9) dJ5_isLatin1_aae02_0 ?_
  refine lv_if_eq (tgt := 17) hx hb dJ5_isLatin1_aae02_3 (by decide) (fun c_1 => ?_) (fun c_1 => ?_)
  · exact absurd c_1 (by decide)
  · refine lv_aload_n hx hb dJ5_isLatin1_aae02_6 rfl (lv_at hl 0 rfl) ?_
    refine va_get (D := G.1) (ci := 1) (v := .int (0 : Int32)) (C := RJ4) (T := TJ4) (N := 4) hx hb hts uws_J4 hown hK hP 0 rfl rfl 1 (by decide) (hts _ u_186) (fun _ h9 => h9) rfl dJ5_isLatin1_aae02_7 ?_
    refine lv_if_ne (tgt := 17) hx hb dJ5_isLatin1_aae02_10 (by decide) (fun c_2 => ?_) (fun c_2 => ?_)
    · exact absurd c_2 (by decide)
    · refine lv_iconst (v := (1 : Int32)) hx hb dJ5_isLatin1_aae02_13 (by decide) ?_
      refine lv_goto (tgt := 18) hx hb dJ5_isLatin1_aae02_14 (by decide) ?_
      exact r_ret hx hb hr hlk rfl (by rw [hF]) (by rw [hF]; exact (rfl : narrow .boolean (.int (1 : Int32)) = .int (1 : Int32))) dJ5_isLatin1_aae02_18
theorem dJ5_charAt_5068e_0 : decode cJ5_charAt_5068e 0 = .ok (.aload_n 0, 1) := by decide +kernel
theorem dJ5_charAt_5068e_1 : decode cJ5_charAt_5068e 1 = .ok (.getfield 22, 3) := by decide +kernel
theorem dJ5_charAt_5068e_4 : decode cJ5_charAt_5068e 4 = .ok (.istore_n 2, 1) := by decide +kernel
theorem dJ5_charAt_5068e_5 : decode cJ5_charAt_5068e 5 = .ok (.aload_n 0, 1) := by decide +kernel
theorem dJ5_charAt_5068e_6 : decode cJ5_charAt_5068e 6 = .ok (.getfield 15, 3) := by decide +kernel
theorem u_185 : Cond.fieldLink RJ5 15 "java/lang/AbstractStringBuilder" "value" "[B" ∈ UW := uw 185 (by decide +kernel) rfl
theorem dJ5_charAt_5068e_9 : decode cJ5_charAt_5068e 9 = .ok (.astore_n 3, 1) := by decide +kernel
theorem dJ5_charAt_5068e_10 : decode cJ5_charAt_5068e 10 = .ok (.aload_n 0, 1) := by decide +kernel
theorem dJ5_charAt_5068e_11 : decode cJ5_charAt_5068e 11 = .ok (.getfield 79, 3) := by decide +kernel
theorem dJ5_charAt_5068e_14 : decode cJ5_charAt_5068e 14 = .ok (.aload_n 3, 1) := by decide +kernel
theorem dJ5_charAt_5068e_15 : decode cJ5_charAt_5068e 15 = .ok (.arraylength, 1) := by decide +kernel
theorem dJ5_charAt_5068e_16 : decode cJ5_charAt_5068e 16 = .ok (.iload_n 2, 1) := by decide +kernel
theorem dJ5_charAt_5068e_17 : decode cJ5_charAt_5068e 17 = .ok (.ishr, 1) := by decide +kernel
theorem dJ5_charAt_5068e_18 : decode cJ5_charAt_5068e 18 = .ok (.invokestatic 138, 3) := by decide +kernel
theorem u_1349 : Cond.methodLink RJ5 138 yJ9_min_7cf53 ∈ UW := uw 1349 (by decide +kernel) rfl
theorem u_240 : Cond.static yJ9_min_7cf53 ∈ UW := uw 240 (by decide +kernel) rfl
theorem u_241 : Cond.code yJ9_min_7cf53 cJ9_min_7cf53 2 (some .int) ∈ UW := uw 241 (by decide +kernel) rfl
theorem g_J5_138 : GoodIn UW (va_wsS RJ5 138 yJ9_min_7cf53 (wsU yJ9_min_7cf53 cJ9_min_7cf53 2 (some .int))) := gS u_1349 u_240 u_44 u_241
theorem hds_J9_min_7cf53 : yJ9_min_7cf53.cls ≠ "java/lang/invoke/MethodHandle" ∧ yJ9_min_7cf53.cls ≠ "java/lang/invoke/VarHandle" ∧ (parseMethodDescriptor yJ9_min_7cf53.desc).map (fun d => d.parameters.length) = some 2 := by decide +kernel
theorem dJ5_charAt_5068e_21 : decode cJ5_charAt_5068e 21 = .ok (.istore 4, 2) := by decide +kernel
theorem dJ5_charAt_5068e_23 : decode cJ5_charAt_5068e 23 = .ok (.iload_n 1, 1) := by decide +kernel
theorem dJ5_charAt_5068e_24 : decode cJ5_charAt_5068e 24 = .ok (.iload 4, 2) := by decide +kernel
theorem dJ5_charAt_5068e_26 : decode cJ5_charAt_5068e 26 = .ok (.invokestatic 144, 3) := by decide +kernel
theorem u_1350 : Cond.methodLink RJ5 144 yJ0_checkIndex_df160 ∈ UW := uw 1350 (by decide +kernel) rfl
theorem g_J5_144 : GoodIn UW (va_wsS RJ5 144 yJ0_checkIndex_df160 (wsU yJ0_checkIndex_df160 cJ0_checkIndex_df160 2 none)) := gS u_1350 u_489 u_31 u_490
theorem dJ5_charAt_5068e_29 : decode cJ5_charAt_5068e 29 = .ok (.iload_n 2, 1) := by decide +kernel
theorem dJ5_charAt_5068e_30 : decode cJ5_charAt_5068e 30 = .ok (.ifCond .ne 12, 3) := by decide +kernel
theorem dJ5_charAt_5068e_33 : decode cJ5_charAt_5068e 33 = .ok (.aload_n 3, 1) := by decide +kernel
theorem dJ5_charAt_5068e_34 : decode cJ5_charAt_5068e 34 = .ok (.iload_n 1, 1) := by decide +kernel
theorem dJ5_charAt_5068e_35 : decode cJ5_charAt_5068e 35 = .ok (.baload, 1) := by decide +kernel
theorem dJ5_charAt_5068e_36 : decode cJ5_charAt_5068e 36 = .ok (.sipush 255, 3) := by decide +kernel
theorem dJ5_charAt_5068e_39 : decode cJ5_charAt_5068e 39 = .ok (.iand, 1) := by decide +kernel
theorem dJ5_charAt_5068e_40 : decode cJ5_charAt_5068e 40 = .ok (.i2c, 1) := by decide +kernel
theorem dJ5_charAt_5068e_41 : decode cJ5_charAt_5068e 41 = .ok (.ireturn, 1) := by decide +kernel
def f_J5_charAt_5068e (sb : SbV) (x : Int32) : Int32 := (let y_2 : Int32 := (f_J9_min_7cf53 sb.2.2.2 (nI sb.1)); (((sb.2.1 x.toNatClampNeg) &&& (255 : Int32)).toUInt32 % 65536).toInt32)
def ok_J5_charAt_5068e (sb : SbV) (x : Int32) : Prop := (let y_2 : Int32 := (f_J9_min_7cf53 sb.2.2.2 (nI sb.1)); (ok_J0_checkIndex_df160 x y_2 ∧ (vp_in x sb.1 ∧ True)))
set_option maxHeartbeats 4000000 in
set_option maxRecDepth 100000 in
theorem c_J5_charAt_5068e (l : Launch) (G : GG) (sbh0 : Nat) (sbh1 : Nat) (sb : SbV) (x : Int32) (hok : ok_J5_charAt_5068e sb x) : rMet l yJ5_charAt_5068e cJ5_charAt_5068e 5 (some .char) 3 G (fl [[(sbh0, .inr (1, [.ref sbh1, .int (0 : Int32), .int sb.2.2.1, .int sb.2.2.2]))], [(sbh1, .inl (G.2.1 2, sb.1, .inl sb.2.1))]]) [.ref sbh0, .int x] (some (.int (f_J5_charAt_5068e sb x))) (narrow .char (.int (f_J5_charAt_5068e sb x)) = .int (f_J5_charAt_5068e sb x)) := by
  refine r_start (by decide +kernel) (Nat.le_of_ble_eq_true rfl) ?_
  intro p e s m below meth c hx hb hr hml hts hown hlk hP hK hST ls hl
  have hS : va_S (fun _ => False) s.heap s.heap [] := va_S.rf
  have hown : s.vm.findClass RJ5 = some m.cls := hown
  have hl : lv_has ls 5 [(0, .ref sbh0), (1, .int x)] := hl
  have hF : f_J5_charAt_5068e sb x = (let y_2 : Int32 := (f_J9_min_7cf53 sb.2.2.2 (nI sb.1)); (((sb.2.1 x.toNatClampNeg) &&& (255 : Int32)).toUInt32 % 65536).toInt32) := rfl
  have hok : (let y_2 : Int32 := (f_J9_min_7cf53 sb.2.2.2 (nI sb.1)); (ok_J0_checkIndex_df160 x y_2 ∧ (vp_in x sb.1 ∧ True))) := hok
  refine lv_aload_n hx hb dJ5_charAt_5068e_0 rfl (lv_at hl 0 rfl) ?_
  refine va_get (D := G.1) (ci := 1) (v := .int (0 : Int32)) (C := RJ4) (T := TJ4) (N := 4) hx hb hts uws_J4 hown hK hP 0 rfl rfl 1 (by decide) (hts _ u_186) (fun _ h9 => h9) rfl dJ5_charAt_5068e_1 ?_
  refine lv_istore_n (lv' := [(2, .int (0 : Int32)), (0, .ref sbh0), (1, .int x)]) hx hb dJ5_charAt_5068e_4 rfl hl (by decide) rfl (fun ls hl => ?_)
  refine lv_aload_n hx hb dJ5_charAt_5068e_5 rfl (lv_at hl 1 rfl) ?_
  refine va_get (D := G.1) (ci := 1) (v := .ref sbh1) (C := RJ4) (T := TJ4) (N := 4) hx hb hts uws_J4 hown hK hP 0 rfl rfl 0 (by decide) (hts _ u_185) (fun _ h9 => h9) rfl dJ5_charAt_5068e_6 ?_
  refine lv_astore_n (lv' := [(3, .ref sbh1), (2, .int (0 : Int32)), (0, .ref sbh0), (1, .int x)]) hx hb dJ5_charAt_5068e_9 rfl hl (by decide) rfl (fun ls hl => ?_)
  refine lv_aload_n hx hb dJ5_charAt_5068e_10 rfl (lv_at hl 2 rfl) ?_
  refine va_get (D := G.1) (ci := 1) (v := .int sb.2.2.2) (C := RJ4) (T := TJ4) (N := 4) hx hb hts uws_J4 hown hK hP 0 rfl rfl 3 (by decide) (hts _ u_189) (fun _ h9 => h9) rfl dJ5_charAt_5068e_11 ?_
  refine lv_aload_n hx hb dJ5_charAt_5068e_14 rfl (lv_at hl 0 rfl) ?_
  refine va_alen (v := (nI sb.1)) hx hb hK hP 1 2 rfl rfl rfl dJ5_charAt_5068e_15 ?_
  refine lv_iload_n hx hb dJ5_charAt_5068e_16 rfl (lv_at hl 1 rfl) ?_
  refine lv_ishr hx hb dJ5_charAt_5068e_17 ?_
  rw [sb_shr0]
  refine r_S (own := RJ5) (v := (some (.int (f_J9_min_7cf53 sb.2.2.2 (nI sb.1))))) (st1 := [.int (f_J9_min_7cf53 sb.2.2.2 (nI sb.1))]) (As := [.int sb.2.2.2, .int (nI sb.1)]) (rest := []) (c_J9_min_7cf53 l G sb.2.2.2 (nI sb.1)) ⟨hx, hb, hml, hown, hts⟩ g_J5_138 hds_J9_min_7cf53 hK hST hS hP [] rfl ⟨Nat.le_of_ble_eq_true rfl, Nat.le_of_ble_eq_true rfl⟩ ⟨Nat.le_of_ble_eq_true rfl, Nat.le_of_ble_eq_true rfl⟩ rfl hl.1 rfl (Nat.le_of_ble_eq_true rfl) dJ5_charAt_5068e_18 rfl (fun b_1 => ?_)
  refine lv_topi (fun y_2 ey_2 => ?_)
  have hF : f_J5_charAt_5068e sb x = (((sb.2.1 x.toNatClampNeg) &&& (255 : Int32)).toUInt32 % 65536).toInt32 := by subst ey_2; exact hF
  have hok : (ok_J0_checkIndex_df160 x y_2 ∧ (vp_in x sb.1 ∧ True)) := by subst ey_2; exact hok
  refine lv_istore (lv' := [(4, .int y_2), (3, .ref sbh1), (2, .int (0 : Int32)), (0, .ref sbh0), (1, .int x)]) hx hb dJ5_charAt_5068e_21 hl (by decide) rfl (fun ls hl => ?_)
  refine lv_iload_n hx hb dJ5_charAt_5068e_23 rfl (lv_at hl 4 rfl) ?_
  refine lv_iload hx hb dJ5_charAt_5068e_24 (lv_at hl 0 rfl) ?_
  have k_3 := hok.1
  have hok := hok.2
  refine r_S (own := RJ5) (v := none) (st1 := []) (As := [.int x, .int y_2]) (rest := []) (c_J0_checkIndex_df160 l G x y_2 k_3) ⟨hx, hb, hml, hown, hts⟩ g_J5_144 hds_J0_checkIndex_df160 hK hST hS hP [] rfl ⟨Nat.le_of_ble_eq_true rfl, Nat.le_of_ble_eq_true rfl⟩ ⟨Nat.le_of_ble_eq_true rfl, Nat.le_of_ble_eq_true rfl⟩ rfl hl.1 rfl (Nat.le_of_ble_eq_true rfl) dJ5_charAt_5068e_26 rfl (fun b_4 => ?_)
  refine lv_iload_n hx hb dJ5_charAt_5068e_29 rfl (lv_at hl 2 rfl) ?_
  refine lv_if_ne (tgt := 42) hx hb dJ5_charAt_5068e_30 (by decide) (fun c_5 => ?_) (fun c_5 => ?_)
  · exact absurd c_5 (by decide)
  · refine lv_aload_n hx hb dJ5_charAt_5068e_33 rfl (lv_at hl 1 rfl) ?_
    refine lv_iload_n hx hb dJ5_charAt_5068e_34 rfl (lv_at hl 4 rfl) ?_
    have h_6 := hok.1
    have hok := hok.2
    refine va_bald hx hb hK hP 1 2 rfl rfl h_6 dJ5_charAt_5068e_35 ?_
    refine lv_sipush (v := (255 : Int32)) hx hb dJ5_charAt_5068e_36 (by decide) ?_
    refine lv_iand hx hb dJ5_charAt_5068e_39 ?_
    refine lv_i2c hx hb dJ5_charAt_5068e_40 rfl ?_
    exact r_ret hx hb hr hlk (pk_nc _) (by rw [hF]) (by rw [hF]; exact ((pk_nc _) : narrow .char (.int ((((sb.2.1 x.toNatClampNeg) &&& (255 : Int32)).toUInt32 % 65536).toInt32)) = .int ((((sb.2.1 x.toNatClampNeg) &&& (255 : Int32)).toUInt32 % 65536).toInt32))) dJ5_charAt_5068e_41
theorem dJ4_charAt_5068e_0 : decode cJ4_charAt_5068e 0 = .ok (.aload_n 0, 1) := by decide +kernel
theorem dJ4_charAt_5068e_1 : decode cJ4_charAt_5068e 1 = .ok (.iload_n 1, 1) := by decide +kernel
theorem dJ4_charAt_5068e_2 : decode cJ4_charAt_5068e 2 = .ok (.invokespecial 329, 3) := by decide +kernel
theorem u_1346 : Cond.methodLink RJ4 329 yJ5_charAt_5068e ∈ UW := uw 1346 (by decide +kernel) rfl
theorem u_1600 : Cond.sameMethod RJ5 RJ5 "charAt" "(I)C" ∈ UW := uw 1600 (by decide +kernel) rfl
theorem u_1347 : Cond.instanceMethod yJ5_charAt_5068e ∈ UW := uw 1347 (by decide +kernel) rfl
theorem u_1348 : Cond.code yJ5_charAt_5068e cJ5_charAt_5068e 5 (some .char) ∈ UW := uw 1348 (by decide +kernel) rfl
theorem gSU_J4_329 : GoodIn UW (va_wsSU RJ4 329 yJ5_charAt_5068e (wsU yJ5_charAt_5068e cJ5_charAt_5068e 5 (some .char))) := gSU u_1346 u_1600 u_159 u_1347 u_29 u_1348
theorem hdsu_J5_charAt_5068e : yJ5_charAt_5068e.name ≠ "<init>" ∧ (parseMethodDescriptor yJ5_charAt_5068e.desc).map (fun d => d.parameters.length) = some 1 := by decide +kernel
theorem dJ4_charAt_5068e_5 : decode cJ4_charAt_5068e 5 = .ok (.ireturn, 1) := by decide +kernel
def f_J4_charAt_5068e (sb : SbV) (x : Int32) : Int32 := (f_J5_charAt_5068e sb x)
def ok_J4_charAt_5068e (sb : SbV) (x : Int32) : Prop := (ok_J5_charAt_5068e sb x ∧ True)
set_option maxHeartbeats 4000000 in
set_option maxRecDepth 100000 in
theorem c_J4_charAt_5068e (l : Launch) (G : GG) (sbh0 : Nat) (sbh1 : Nat) (sb : SbV) (x : Int32) (hok : ok_J4_charAt_5068e sb x) : rMet l yJ4_charAt_5068e cJ4_charAt_5068e 2 (some .char) 4 G (fl [[(sbh0, .inr (1, [.ref sbh1, .int (0 : Int32), .int sb.2.2.1, .int sb.2.2.2]))], [(sbh1, .inl (G.2.1 2, sb.1, .inl sb.2.1))]]) [.ref sbh0, .int x] (some (.int (f_J4_charAt_5068e sb x))) (narrow .char (.int (f_J4_charAt_5068e sb x)) = .int (f_J4_charAt_5068e sb x)) := by
  refine r_start (by decide +kernel) (Nat.le_of_ble_eq_true rfl) ?_
  intro p e s m below meth c hx hb hr hml hts hown hlk hP hK hST ls hl
  have hS : va_S (fun _ => False) s.heap s.heap [] := va_S.rf
  have hown : s.vm.findClass RJ4 = some m.cls := hown
  have hl : lv_has ls 2 [(0, .ref sbh0), (1, .int x)] := hl
  have hF : f_J4_charAt_5068e sb x = (f_J5_charAt_5068e sb x) := rfl
  have hok : (ok_J5_charAt_5068e sb x ∧ True) := hok
  refine lv_aload_n hx hb dJ4_charAt_5068e_0 rfl (lv_at hl 0 rfl) ?_
  refine lv_iload_n hx hb dJ4_charAt_5068e_1 rfl (lv_at hl 1 rfl) ?_
  have k_1 := hok.1
  have hok := hok.2
  refine r_SU (own := RJ4) (v := (some (.int (f_J5_charAt_5068e sb x)))) (st1 := [.int (f_J5_charAt_5068e sb x)]) (As := [.int x]) (rest := []) (c_J5_charAt_5068e l G sbh0 sbh1 sb x k_1) ⟨hx, hb, hml, hown, hts⟩ gSU_J4_329 hdsu_J5_charAt_5068e 1 _ rfl rfl hK hST hS hP [0, 1] rfl (va_recv hK hP (ci := 1) (q0 := 0) rfl rfl) ⟨Nat.le_of_ble_eq_true rfl, Nat.le_of_ble_eq_true rfl⟩ ⟨Nat.le_of_ble_eq_true rfl, Nat.le_of_ble_eq_true rfl⟩ rfl hl.1 rfl (Nat.le_of_ble_eq_true rfl) dJ4_charAt_5068e_2 rfl (fun b_2 => ?_)
  exact r_ret hx hb hr hlk b_2 (by rw [hF]) (by rw [hF]; exact (b_2 : narrow .char (.int (f_J5_charAt_5068e sb x)) = .int (f_J5_charAt_5068e sb x))) dJ4_charAt_5068e_5
theorem dJ1_canEncode_fc78d_0 : decode cJ1_canEncode_fc78d 0 = .ok (.iload_n 0, 1) := by decide +kernel
theorem dJ1_canEncode_fc78d_1 : decode cJ1_canEncode_fc78d 1 = .ok (.sipush 255, 3) := by decide +kernel
theorem dJ1_canEncode_fc78d_4 : decode cJ1_canEncode_fc78d 4 = .ok (.if_icmp .gt 7, 3) := by decide +kernel
theorem dJ1_canEncode_fc78d_11 : decode cJ1_canEncode_fc78d 11 = .ok (.iconst 0, 1) := by decide +kernel
theorem dJ1_canEncode_fc78d_12 : decode cJ1_canEncode_fc78d 12 = .ok (.ireturn, 1) := by decide +kernel
theorem dJ1_canEncode_fc78d_7 : decode cJ1_canEncode_fc78d 7 = .ok (.iconst 1, 1) := by decide +kernel
theorem dJ1_canEncode_fc78d_8 : decode cJ1_canEncode_fc78d 8 = .ok (.goto 4, 3) := by decide +kernel
def f_J1_canEncode_fc78d (x : Int32) : Int32 := (if (255 : Int32) < x then (0 : Int32) else (1 : Int32))
set_option maxHeartbeats 4000000 in
set_option maxRecDepth 100000 in
theorem c_J1_canEncode_fc78d (l : Launch) (G : GG)  (x : Int32) : rMet l yJ1_canEncode_fc78d cJ1_canEncode_fc78d 1 (some .boolean) 1 G (fl []) [.int x] (some (.int (f_J1_canEncode_fc78d x))) (narrow .boolean (.int (f_J1_canEncode_fc78d x)) = .int (f_J1_canEncode_fc78d x)) := by
  refine r_start (by decide +kernel) (Nat.le_of_ble_eq_true rfl) ?_
  intro p e s m below meth c hx hb hr hml hts hown hlk hP hK hST ls hl
  have hS : va_S (fun _ => False) s.heap s.heap [] := va_S.rf
  have hown : s.vm.findClass RJ1 = some m.cls := hown
  have hl : lv_has ls 1 [(0, .int x)] := hl
  have hF : f_J1_canEncode_fc78d x = (if (255 : Int32) < x then (0 : Int32) else (1 : Int32)) := rfl
  refine lv_iload_n hx hb dJ1_canEncode_fc78d_0 rfl (lv_at hl 0 rfl) ?_
  refine lv_sipush (v := (255 : Int32)) hx hb dJ1_canEncode_fc78d_1 (by decide) ?_
  refine lv_icmp_gt (tgt := 11) hx hb dJ1_canEncode_fc78d_4 (by decide) (fun c_1 => ?_) (fun c_1 => ?_)
  · have hF := hF.trans (if_pos c_1)
    refine lv_iconst (v := (0 : Int32)) hx hb dJ1_canEncode_fc78d_11 (by decide) ?_
    exact r_ret hx hb hr hlk rfl (by rw [hF]) (by rw [hF]; exact (rfl : narrow .boolean (.int (0 : Int32)) = .int (0 : Int32))) dJ1_canEncode_fc78d_12
  · have hF := hF.trans (if_neg c_1)
    refine lv_iconst (v := (1 : Int32)) hx hb dJ1_canEncode_fc78d_7 (by decide) ?_
    refine lv_goto (tgt := 12) hx hb dJ1_canEncode_fc78d_8 (by decide) ?_
    exact r_ret hx hb hr hlk rfl (by rw [hF]) (by rw [hF]; exact (rfl : narrow .boolean (.int (1 : Int32)) = .int (1 : Int32))) dJ1_canEncode_fc78d_12
theorem dJ8_newLength_cabcc_0 : decode cJ8_newLength_cabcc 0 = .ok (.iload_n 0, 1) := by decide +kernel
theorem dJ8_newLength_cabcc_1 : decode cJ8_newLength_cabcc 1 = .ok (.iload_n 1, 1) := by decide +kernel
theorem dJ8_newLength_cabcc_2 : decode cJ8_newLength_cabcc 2 = .ok (.iload_n 2, 1) := by decide +kernel
theorem dJ8_newLength_cabcc_3 : decode cJ8_newLength_cabcc 3 = .ok (.invokestatic 194, 3) := by decide +kernel
theorem u_221 : Cond.methodLink RJ8 194 yJ9_max_7cf53 ∈ UW := uw 221 (by decide +kernel) rfl
theorem u_222 : Cond.static yJ9_max_7cf53 ∈ UW := uw 222 (by decide +kernel) rfl
theorem u_223 : Cond.code yJ9_max_7cf53 cJ9_max_7cf53 2 (some .int) ∈ UW := uw 223 (by decide +kernel) rfl
theorem g_J8_194 : GoodIn UW (va_wsS RJ8 194 yJ9_max_7cf53 (wsU yJ9_max_7cf53 cJ9_max_7cf53 2 (some .int))) := gS u_221 u_222 u_44 u_223
theorem hds_J9_max_7cf53 : yJ9_max_7cf53.cls ≠ "java/lang/invoke/MethodHandle" ∧ yJ9_max_7cf53.cls ≠ "java/lang/invoke/VarHandle" ∧ (parseMethodDescriptor yJ9_max_7cf53.desc).map (fun d => d.parameters.length) = some 2 := by decide +kernel
theorem dJ8_newLength_cabcc_6 : decode cJ8_newLength_cabcc 6 = .ok (.iadd, 1) := by decide +kernel
theorem dJ8_newLength_cabcc_7 : decode cJ8_newLength_cabcc 7 = .ok (.istore_n 3, 1) := by decide +kernel
theorem dJ8_newLength_cabcc_8 : decode cJ8_newLength_cabcc 8 = .ok (.iconst 0, 1) := by decide +kernel
theorem dJ8_newLength_cabcc_9 : decode cJ8_newLength_cabcc 9 = .ok (.iload_n 3, 1) := by decide +kernel
theorem dJ8_newLength_cabcc_10 : decode cJ8_newLength_cabcc 10 = .ok (.if_icmp .ge 11, 3) := by decide +kernel
theorem dJ8_newLength_cabcc_13 : decode cJ8_newLength_cabcc 13 = .ok (.iload_n 3, 1) := by decide +kernel
theorem dJ8_newLength_cabcc_14 : decode cJ8_newLength_cabcc 14 = .ok (.ldc 200, 2) := by decide +kernel
theorem u_224 : Cond.constant RJ8 200 (2147483639) ∈ UW := uw 224 (by decide +kernel) rfl
theorem dJ8_newLength_cabcc_16 : decode cJ8_newLength_cabcc 16 = .ok (.if_icmp .gt 5, 3) := by decide +kernel
theorem dJ8_newLength_cabcc_19 : decode cJ8_newLength_cabcc 19 = .ok (.iload_n 3, 1) := by decide +kernel
theorem dJ8_newLength_cabcc_20 : decode cJ8_newLength_cabcc 20 = .ok (.ireturn, 1) := by decide +kernel
def f_J8_newLength_cabcc (x : Int32) (y : Int32) (z : Int32) : Int32 := (let y_2 : Int32 := (x + (f_J9_max_7cf53 y z)); (if y_2 ≤ (0 : Int32) then 0 else (if (2147483639 : Int32) < y_2 then 0 else y_2)))
def ok_J8_newLength_cabcc (x : Int32) (y : Int32) (z : Int32) : Prop := (let y_2 : Int32 := (x + (f_J9_max_7cf53 y z)); (if y_2 ≤ (0 : Int32) then False else (if (2147483639 : Int32) < y_2 then False else True)))
set_option maxHeartbeats 4000000 in
set_option maxRecDepth 100000 in
theorem c_J8_newLength_cabcc (l : Launch) (G : GG)  (x : Int32) (y : Int32) (z : Int32) (hok : ok_J8_newLength_cabcc x y z) : rMet l yJ8_newLength_cabcc cJ8_newLength_cabcc 4 (some .int) 2 G (fl []) [.int x, .int y, .int z] (some (.int (f_J8_newLength_cabcc x y z))) (True) := by
  refine r_start (by decide +kernel) (Nat.le_of_ble_eq_true rfl) ?_
  intro p e s m below meth c hx hb hr hml hts hown hlk hP hK hST ls hl
  have hS : va_S (fun _ => False) s.heap s.heap [] := va_S.rf
  have hown : s.vm.findClass RJ8 = some m.cls := hown
  have hl : lv_has ls 4 [(0, .int x), (1, .int y), (2, .int z)] := hl
  have hF : f_J8_newLength_cabcc x y z = (let y_2 : Int32 := (x + (f_J9_max_7cf53 y z)); (if y_2 ≤ (0 : Int32) then 0 else (if (2147483639 : Int32) < y_2 then 0 else y_2))) := rfl
  have hok : (let y_2 : Int32 := (x + (f_J9_max_7cf53 y z)); (if y_2 ≤ (0 : Int32) then False else (if (2147483639 : Int32) < y_2 then False else True))) := hok
  refine lv_iload_n hx hb dJ8_newLength_cabcc_0 rfl (lv_at hl 0 rfl) ?_
  refine lv_iload_n hx hb dJ8_newLength_cabcc_1 rfl (lv_at hl 1 rfl) ?_
  refine lv_iload_n hx hb dJ8_newLength_cabcc_2 rfl (lv_at hl 2 rfl) ?_
  refine r_S (own := RJ8) (v := (some (.int (f_J9_max_7cf53 y z)))) (st1 := [.int (f_J9_max_7cf53 y z), .int x]) (As := [.int y, .int z]) (rest := [.int x]) (c_J9_max_7cf53 l G y z) ⟨hx, hb, hml, hown, hts⟩ g_J8_194 hds_J9_max_7cf53 hK hST hS hP [] rfl ⟨Nat.le_of_ble_eq_true rfl, Nat.le_of_ble_eq_true rfl⟩ ⟨Nat.le_of_ble_eq_true rfl, Nat.le_of_ble_eq_true rfl⟩ rfl hl.1 rfl (Nat.le_of_ble_eq_true rfl) dJ8_newLength_cabcc_3 rfl (fun b_1 => ?_)
  refine lv_iadd hx hb dJ8_newLength_cabcc_6 ?_
  refine lv_topi (fun y_2 ey_2 => ?_)
  have hF : f_J8_newLength_cabcc x y z = (if y_2 ≤ (0 : Int32) then 0 else (if (2147483639 : Int32) < y_2 then 0 else y_2)) := by subst ey_2; exact hF
  have hok : (if y_2 ≤ (0 : Int32) then False else (if (2147483639 : Int32) < y_2 then False else True)) := by subst ey_2; exact hok
  refine lv_istore_n (lv' := [(3, .int y_2), (0, .int x), (1, .int y), (2, .int z)]) hx hb dJ8_newLength_cabcc_7 rfl hl (by decide) rfl (fun ls hl => ?_)
  refine lv_iconst (v := (0 : Int32)) hx hb dJ8_newLength_cabcc_8 (by decide) ?_
  refine lv_iload_n hx hb dJ8_newLength_cabcc_9 rfl (lv_at hl 0 rfl) ?_
  refine lv_icmp_ge (tgt := 21) hx hb dJ8_newLength_cabcc_10 (by decide) (fun c_3 => ?_) (fun c_3 => ?_)
  · have hF := hF.trans (if_pos c_3)
    have hok := Eq.mp (if_pos c_3) hok
    exact hok.elim
  · have hF := hF.trans (if_neg c_3)
    have hok := Eq.mp (if_neg c_3) hok
    refine lv_iload_n hx hb dJ8_newLength_cabcc_13 rfl (lv_at hl 0 rfl) ?_
    refine lv_ldc hx hb hown (hts _ u_224) dJ8_newLength_cabcc_14 ?_
    refine lv_icmp_gt (tgt := 21) hx hb dJ8_newLength_cabcc_16 (by decide) (fun c_4 => ?_) (fun c_4 => ?_)
    · have hF := hF.trans (if_pos c_4)
      have hok := Eq.mp (if_pos c_4) hok
      exact hok.elim
    · have hF := hF.trans (if_neg c_4)
      have hok := Eq.mp (if_neg c_4) hok
      refine lv_iload_n hx hb dJ8_newLength_cabcc_19 rfl (lv_at hl 0 rfl) ?_
      exact r_ret hx hb hr hlk rfl (by rw [hF]) trivial dJ8_newLength_cabcc_20
theorem dJ5_newCapacity_0f7a4_0 : decode cJ5_newCapacity_0f7a4 0 = .ok (.aload_n 0, 1) := by decide +kernel
theorem dJ5_newCapacity_0f7a4_1 : decode cJ5_newCapacity_0f7a4 1 = .ok (.getfield 15, 3) := by decide +kernel
theorem dJ5_newCapacity_0f7a4_4 : decode cJ5_newCapacity_0f7a4 4 = .ok (.arraylength, 1) := by decide +kernel
theorem dJ5_newCapacity_0f7a4_5 : decode cJ5_newCapacity_0f7a4 5 = .ok (.istore_n 2, 1) := by decide +kernel
theorem dJ5_newCapacity_0f7a4_6 : decode cJ5_newCapacity_0f7a4 6 = .ok (.iload_n 1, 1) := by decide +kernel
theorem dJ5_newCapacity_0f7a4_7 : decode cJ5_newCapacity_0f7a4 7 = .ok (.aload_n 0, 1) := by decide +kernel
theorem dJ5_newCapacity_0f7a4_8 : decode cJ5_newCapacity_0f7a4 8 = .ok (.getfield 22, 3) := by decide +kernel
theorem dJ5_newCapacity_0f7a4_11 : decode cJ5_newCapacity_0f7a4 11 = .ok (.ishl, 1) := by decide +kernel
theorem dJ5_newCapacity_0f7a4_12 : decode cJ5_newCapacity_0f7a4 12 = .ok (.istore_n 3, 1) := by decide +kernel
theorem dJ5_newCapacity_0f7a4_13 : decode cJ5_newCapacity_0f7a4 13 = .ok (.iload_n 3, 1) := by decide +kernel
theorem dJ5_newCapacity_0f7a4_14 : decode cJ5_newCapacity_0f7a4 14 = .ok (.iload_n 2, 1) := by decide +kernel
theorem dJ5_newCapacity_0f7a4_15 : decode cJ5_newCapacity_0f7a4 15 = .ok (.isub, 1) := by decide +kernel
theorem dJ5_newCapacity_0f7a4_16 : decode cJ5_newCapacity_0f7a4 16 = .ok (.istore 4, 2) := by decide +kernel
theorem dJ5_newCapacity_0f7a4_18 : decode cJ5_newCapacity_0f7a4 18 = .ok (.iload_n 2, 1) := by decide +kernel
theorem dJ5_newCapacity_0f7a4_19 : decode cJ5_newCapacity_0f7a4 19 = .ok (.iload 4, 2) := by decide +kernel
theorem dJ5_newCapacity_0f7a4_21 : decode cJ5_newCapacity_0f7a4 21 = .ok (.iload_n 2, 1) := by decide +kernel
theorem dJ5_newCapacity_0f7a4_22 : decode cJ5_newCapacity_0f7a4 22 = .ok (.iconst 2, 1) := by decide +kernel
theorem dJ5_newCapacity_0f7a4_23 : decode cJ5_newCapacity_0f7a4 23 = .ok (.aload_n 0, 1) := by decide +kernel
theorem dJ5_newCapacity_0f7a4_24 : decode cJ5_newCapacity_0f7a4 24 = .ok (.getfield 22, 3) := by decide +kernel
theorem dJ5_newCapacity_0f7a4_27 : decode cJ5_newCapacity_0f7a4 27 = .ok (.ishl, 1) := by decide +kernel
theorem dJ5_newCapacity_0f7a4_28 : decode cJ5_newCapacity_0f7a4 28 = .ok (.iadd, 1) := by decide +kernel
theorem dJ5_newCapacity_0f7a4_29 : decode cJ5_newCapacity_0f7a4 29 = .ok (.invokestatic 114, 3) := by decide +kernel
theorem u_218 : Cond.methodLink RJ5 114 yJ8_newLength_cabcc ∈ UW := uw 218 (by decide +kernel) rfl
theorem u_219 : Cond.static yJ8_newLength_cabcc ∈ UW := uw 219 (by decide +kernel) rfl
theorem u_49 : Cond.initialized RJ8 ∈ UW := uw 49 (by decide +kernel) rfl
theorem u_220 : Cond.code yJ8_newLength_cabcc cJ8_newLength_cabcc 4 (some .int) ∈ UW := uw 220 (by decide +kernel) rfl
theorem g_J5_114 : GoodIn UW (va_wsS RJ5 114 yJ8_newLength_cabcc (wsU yJ8_newLength_cabcc cJ8_newLength_cabcc 4 (some .int))) := gS u_218 u_219 u_49 u_220
theorem hds_J8_newLength_cabcc : yJ8_newLength_cabcc.cls ≠ "java/lang/invoke/MethodHandle" ∧ yJ8_newLength_cabcc.cls ≠ "java/lang/invoke/VarHandle" ∧ (parseMethodDescriptor yJ8_newLength_cabcc.desc).map (fun d => d.parameters.length) = some 3 := by decide +kernel
theorem dJ5_newCapacity_0f7a4_32 : decode cJ5_newCapacity_0f7a4 32 = .ok (.istore 5, 2) := by decide +kernel
theorem dJ5_newCapacity_0f7a4_34 : decode cJ5_newCapacity_0f7a4 34 = .ok (.iload 5, 2) := by decide +kernel
theorem dJ5_newCapacity_0f7a4_36 : decode cJ5_newCapacity_0f7a4 36 = .ok (.ldc 39, 2) := by decide +kernel
theorem u_228 : Cond.constant RJ5 39 (2147483647) ∈ UW := uw 228 (by decide +kernel) rfl
theorem dJ5_newCapacity_0f7a4_38 : decode cJ5_newCapacity_0f7a4 38 = .ok (.if_icmp .ne 13, 3) := by decide +kernel
theorem dJ5_newCapacity_0f7a4_51 : decode cJ5_newCapacity_0f7a4 51 = .ok (.iload 5, 2) := by decide +kernel
theorem dJ5_newCapacity_0f7a4_53 : decode cJ5_newCapacity_0f7a4 53 = .ok (.aload_n 0, 1) := by decide +kernel
theorem dJ5_newCapacity_0f7a4_54 : decode cJ5_newCapacity_0f7a4 54 = .ok (.getfield 22, 3) := by decide +kernel
theorem dJ5_newCapacity_0f7a4_57 : decode cJ5_newCapacity_0f7a4 57 = .ok (.ishr, 1) := by decide +kernel
theorem dJ5_newCapacity_0f7a4_58 : decode cJ5_newCapacity_0f7a4 58 = .ok (.ireturn, 1) := by decide +kernel
def f_J5_newCapacity_0f7a4 (sb : SbV) (x : Int32) : Int32 := (let y_3 : Int32 := (f_J8_newLength_cabcc (nI sb.1) (x - (nI sb.1)) ((nI sb.1) + (2 : Int32))); (if y_3 = (2147483647 : Int32) then 0 else y_3))
def ok_J5_newCapacity_0f7a4 (sb : SbV) (x : Int32) : Prop := (ok_J8_newLength_cabcc (nI sb.1) (x - (nI sb.1)) ((nI sb.1) + (2 : Int32)) ∧ (let y_3 : Int32 := (f_J8_newLength_cabcc (nI sb.1) (x - (nI sb.1)) ((nI sb.1) + (2 : Int32))); (if y_3 = (2147483647 : Int32) then False else True)))
set_option maxHeartbeats 4000000 in
set_option maxRecDepth 100000 in
theorem c_J5_newCapacity_0f7a4 (l : Launch) (G : GG) (sbh0 : Nat) (sbh1 : Nat) (sb : SbV) (x : Int32) (hok : ok_J5_newCapacity_0f7a4 sb x) : rMet l yJ5_newCapacity_0f7a4 cJ5_newCapacity_0f7a4 6 (some .int) 3 G (fl [[(sbh0, .inr (1, [.ref sbh1, .int (0 : Int32), .int sb.2.2.1, .int sb.2.2.2]))], [(sbh1, .inl (G.2.1 2, sb.1, .inl sb.2.1))]]) [.ref sbh0, .int x] (some (.int (f_J5_newCapacity_0f7a4 sb x))) (True) := by
  refine r_start (by decide +kernel) (Nat.le_of_ble_eq_true rfl) ?_
  intro p e s m below meth c hx hb hr hml hts hown hlk hP hK hST ls hl
  have hS : va_S (fun _ => False) s.heap s.heap [] := va_S.rf
  have hown : s.vm.findClass RJ5 = some m.cls := hown
  have hl : lv_has ls 6 [(0, .ref sbh0), (1, .int x)] := hl
  have hF : f_J5_newCapacity_0f7a4 sb x = (let y_3 : Int32 := (f_J8_newLength_cabcc (nI sb.1) (x - (nI sb.1)) ((nI sb.1) + (2 : Int32))); (if y_3 = (2147483647 : Int32) then 0 else y_3)) := rfl
  have hok : (ok_J8_newLength_cabcc (nI sb.1) (x - (nI sb.1)) ((nI sb.1) + (2 : Int32)) ∧ (let y_3 : Int32 := (f_J8_newLength_cabcc (nI sb.1) (x - (nI sb.1)) ((nI sb.1) + (2 : Int32))); (if y_3 = (2147483647 : Int32) then False else True))) := hok
  refine lv_aload_n hx hb dJ5_newCapacity_0f7a4_0 rfl (lv_at hl 0 rfl) ?_
  refine va_get (D := G.1) (ci := 1) (v := .ref sbh1) (C := RJ4) (T := TJ4) (N := 4) hx hb hts uws_J4 hown hK hP 0 rfl rfl 0 (by decide) (hts _ u_185) (fun _ h9 => h9) rfl dJ5_newCapacity_0f7a4_1 ?_
  refine va_alen (v := (nI sb.1)) hx hb hK hP 1 2 rfl rfl rfl dJ5_newCapacity_0f7a4_4 ?_
  refine lv_istore_n (lv' := [(2, .int (nI sb.1)), (0, .ref sbh0), (1, .int x)]) hx hb dJ5_newCapacity_0f7a4_5 rfl hl (by decide) rfl (fun ls hl => ?_)
  refine lv_iload_n hx hb dJ5_newCapacity_0f7a4_6 rfl (lv_at hl 2 rfl) ?_
  refine lv_aload_n hx hb dJ5_newCapacity_0f7a4_7 rfl (lv_at hl 1 rfl) ?_
  refine va_get (D := G.1) (ci := 1) (v := .int (0 : Int32)) (C := RJ4) (T := TJ4) (N := 4) hx hb hts uws_J4 hown hK hP 0 rfl rfl 1 (by decide) (hts _ u_186) (fun _ h9 => h9) rfl dJ5_newCapacity_0f7a4_8 ?_
  refine lv_ishl hx hb dJ5_newCapacity_0f7a4_11 ?_
  rw [sb_shl0]
  refine lv_istore_n (lv' := [(3, .int x), (2, .int (nI sb.1)), (0, .ref sbh0), (1, .int x)]) hx hb dJ5_newCapacity_0f7a4_12 rfl hl (by decide) rfl (fun ls hl => ?_)
  refine lv_iload_n hx hb dJ5_newCapacity_0f7a4_13 rfl (lv_at hl 0 rfl) ?_
  refine lv_iload_n hx hb dJ5_newCapacity_0f7a4_14 rfl (lv_at hl 1 rfl) ?_
  refine lv_isub hx hb dJ5_newCapacity_0f7a4_15 ?_
  refine lv_istore (lv' := [(4, .int (x - (nI sb.1))), (3, .int x), (2, .int (nI sb.1)), (0, .ref sbh0), (1, .int x)]) hx hb dJ5_newCapacity_0f7a4_16 hl (by decide) rfl (fun ls hl => ?_)
  refine lv_iload_n hx hb dJ5_newCapacity_0f7a4_18 rfl (lv_at hl 2 rfl) ?_
  refine lv_iload hx hb dJ5_newCapacity_0f7a4_19 (lv_at hl 0 rfl) ?_
  refine lv_iload_n hx hb dJ5_newCapacity_0f7a4_21 rfl (lv_at hl 2 rfl) ?_
  refine lv_iconst (v := (2 : Int32)) hx hb dJ5_newCapacity_0f7a4_22 (by decide) ?_
  refine lv_aload_n hx hb dJ5_newCapacity_0f7a4_23 rfl (lv_at hl 3 rfl) ?_
  refine va_get (D := G.1) (ci := 1) (v := .int (0 : Int32)) (C := RJ4) (T := TJ4) (N := 4) hx hb hts uws_J4 hown hK hP 0 rfl rfl 1 (by decide) (hts _ u_186) (fun _ h9 => h9) rfl dJ5_newCapacity_0f7a4_24 ?_
  refine lv_ishl hx hb dJ5_newCapacity_0f7a4_27 ?_
  rw [sb_shl0]
  refine lv_iadd hx hb dJ5_newCapacity_0f7a4_28 ?_
  have k_1 := hok.1
  have hok := hok.2
  refine r_S (own := RJ5) (v := (some (.int (f_J8_newLength_cabcc (nI sb.1) (x - (nI sb.1)) ((nI sb.1) + (2 : Int32)))))) (st1 := [.int (f_J8_newLength_cabcc (nI sb.1) (x - (nI sb.1)) ((nI sb.1) + (2 : Int32)))]) (As := [.int (nI sb.1), .int (x - (nI sb.1)), .int ((nI sb.1) + (2 : Int32))]) (rest := []) (c_J8_newLength_cabcc l G (nI sb.1) (x - (nI sb.1)) ((nI sb.1) + (2 : Int32)) k_1) ⟨hx, hb, hml, hown, hts⟩ g_J5_114 hds_J8_newLength_cabcc hK hST hS hP [] rfl ⟨Nat.le_of_ble_eq_true rfl, Nat.le_of_ble_eq_true rfl⟩ ⟨Nat.le_of_ble_eq_true rfl, Nat.le_of_ble_eq_true rfl⟩ rfl hl.1 rfl (Nat.le_of_ble_eq_true rfl) dJ5_newCapacity_0f7a4_29 rfl (fun b_2 => ?_)
  refine lv_topi (fun y_3 ey_3 => ?_)
  have hF : f_J5_newCapacity_0f7a4 sb x = (if y_3 = (2147483647 : Int32) then 0 else y_3) := by subst ey_3; exact hF
  have hok : (if y_3 = (2147483647 : Int32) then False else True) := by subst ey_3; exact hok
  refine lv_istore (lv' := [(5, .int y_3), (4, .int (x - (nI sb.1))), (3, .int x), (2, .int (nI sb.1)), (0, .ref sbh0), (1, .int x)]) hx hb dJ5_newCapacity_0f7a4_32 hl (by decide) rfl (fun ls hl => ?_)
  refine lv_iload hx hb dJ5_newCapacity_0f7a4_34 (lv_at hl 0 rfl) ?_
  refine lv_ldc hx hb hown (hts _ u_228) dJ5_newCapacity_0f7a4_36 ?_
  refine lv_icmp_ne (tgt := 51) hx hb dJ5_newCapacity_0f7a4_38 (by decide) (fun c_4 => ?_) (fun c_4 => ?_)
  · have hF := hF.trans (if_neg c_4)
    have hok := Eq.mp (if_neg c_4) hok
    refine lv_iload hx hb dJ5_newCapacity_0f7a4_51 (lv_at hl 0 rfl) ?_
    refine lv_aload_n hx hb dJ5_newCapacity_0f7a4_53 rfl (lv_at hl 4 rfl) ?_
    refine va_get (D := G.1) (ci := 1) (v := .int (0 : Int32)) (C := RJ4) (T := TJ4) (N := 4) hx hb hts uws_J4 hown hK hP 0 rfl rfl 1 (by decide) (hts _ u_186) (fun _ h9 => h9) rfl dJ5_newCapacity_0f7a4_54 ?_
    refine lv_ishr hx hb dJ5_newCapacity_0f7a4_57 ?_
    rw [sb_shr0]
    exact r_ret hx hb hr hlk rfl (by rw [hF]) trivial dJ5_newCapacity_0f7a4_58
  · have hF := hF.trans (if_pos c_4)
    have hok := Eq.mp (if_pos c_4) hok
    exact hok.elim
theorem dJ7_copyOf_9075b_0 : decode cJ7_copyOf_9075b 0 = .ok (.iload_n 1, 1) := by decide +kernel
theorem dJ7_copyOf_9075b_1 : decode cJ7_copyOf_9075b 1 = .ok (.aload_n 0, 1) := by decide +kernel
theorem dJ7_copyOf_9075b_2 : decode cJ7_copyOf_9075b 2 = .ok (.arraylength, 1) := by decide +kernel
theorem dJ7_copyOf_9075b_3 : decode cJ7_copyOf_9075b 3 = .ok (.if_icmp .ne 11, 3) := by decide +kernel
theorem dJ7_copyOf_9075b_14 : decode cJ7_copyOf_9075b 14 = .ok (.iload_n 1, 1) := by decide +kernel
theorem dJ7_copyOf_9075b_15 : decode cJ7_copyOf_9075b 15 = .ok (.newarray .byte, 2) := by decide +kernel
theorem u_153 : Cond.arrayClass .byte ∈ UW := uw 153 (by decide +kernel) rfl
theorem dJ7_copyOf_9075b_17 : decode cJ7_copyOf_9075b 17 = .ok (.astore_n 2, 1) := by decide +kernel
theorem dJ7_copyOf_9075b_18 : decode cJ7_copyOf_9075b 18 = .ok (.aload_n 0, 1) := by decide +kernel
theorem dJ7_copyOf_9075b_19 : decode cJ7_copyOf_9075b 19 = .ok (.iconst 0, 1) := by decide +kernel
theorem dJ7_copyOf_9075b_20 : decode cJ7_copyOf_9075b 20 = .ok (.aload_n 2, 1) := by decide +kernel
theorem dJ7_copyOf_9075b_21 : decode cJ7_copyOf_9075b 21 = .ok (.iconst 0, 1) := by decide +kernel
theorem dJ7_copyOf_9075b_22 : decode cJ7_copyOf_9075b 22 = .ok (.aload_n 0, 1) := by decide +kernel
theorem dJ7_copyOf_9075b_23 : decode cJ7_copyOf_9075b 23 = .ok (.arraylength, 1) := by decide +kernel
theorem dJ7_copyOf_9075b_24 : decode cJ7_copyOf_9075b 24 = .ok (.iload_n 1, 1) := by decide +kernel
theorem dJ7_copyOf_9075b_25 : decode cJ7_copyOf_9075b 25 = .ok (.invokestatic 304, 3) := by decide +kernel
theorem u_239 : Cond.methodLink RJ7 304 yJ9_min_7cf53 ∈ UW := uw 239 (by decide +kernel) rfl
theorem g_J7_304 : GoodIn UW (va_wsS RJ7 304 yJ9_min_7cf53 (wsU yJ9_min_7cf53 cJ9_min_7cf53 2 (some .int))) := gS u_239 u_240 u_44 u_241
theorem dJ7_copyOf_9075b_28 : decode cJ7_copyOf_9075b 28 = .ok (.invokestatic 150, 3) := by decide +kernel
theorem u_242 : Cond.methodLink RJ7 150 ⟨"java/lang/System", "arraycopy", "(Ljava/lang/Object;ILjava/lang/Object;II)V"⟩ ∈ UW := uw 242 (by decide +kernel) rfl
theorem u_244 : Cond.native ⟨"java/lang/System", "arraycopy", "(Ljava/lang/Object;ILjava/lang/Object;II)V"⟩ ∈ UW := uw 244 (by decide +kernel) rfl
theorem u_243 : Cond.static ⟨"java/lang/System", "arraycopy", "(Ljava/lang/Object;ILjava/lang/Object;II)V"⟩ ∈ UW := uw 243 (by decide +kernel) rfl
theorem u_51 : Cond.initialized RJ10 ∈ UW := uw 51 (by decide +kernel) rfl
theorem dJ7_copyOf_9075b_31 : decode cJ7_copyOf_9075b 31 = .ok (.aload_n 2, 1) := by decide +kernel
theorem dJ7_copyOf_9075b_32 : decode cJ7_copyOf_9075b 32 = .ok (.areturn, 1) := by decide +kernel
def f_J7_copyOf_9075b (ryn : Nat) (ry : Nat → Int32) (x : Int32) : Nat × (Nat → Int32) := (if x = (nI ryn) then (0, (fun _ => 0)) else (x.toNatClampNeg, (va_cpy ry (fun _ => 0) (0 : Int32).toNatClampNeg (0 : Int32).toNatClampNeg (f_J9_min_7cf53 (nI ryn) x).toNatClampNeg)))
def ok_J7_copyOf_9075b (ryn : Nat) (ry : Nat → Int32) (x : Int32) : Prop := (if x = (nI ryn) then False else (¬ x < 0 ∧ (x.toNatClampNeg ≤ 200 ∧ (¬ (f_J9_min_7cf53 (nI ryn) x) < 0 ∧ ((0 : Int32).toNatClampNeg + (f_J9_min_7cf53 (nI ryn) x).toNatClampNeg ≤ ryn ∧ ((0 : Int32).toNatClampNeg + (f_J9_min_7cf53 (nI ryn) x).toNatClampNeg ≤ x.toNatClampNeg ∧ ((∀ i, i < (f_J9_min_7cf53 (nI ryn) x).toNatClampNeg → fits .byte (.int (ry ((0 : Int32).toNatClampNeg + i))) = true) ∧ True)))))))
set_option maxHeartbeats 4000000 in
set_option maxRecDepth 100000 in
theorem c_J7_copyOf_9075b (l : Launch) (G : GG) (ryh : Nat) (sz : Nat) (ryn : Nat) (ry : Nat → Int32) (x : Int32) (hok : ok_J7_copyOf_9075b ryn ry x) (hyp_ryn : ryn < 2147483648) : wMet l yJ7_copyOf_9075b cJ7_copyOf_9075b 3 (some (.array .byte)) 3 1 200 G (fl [[(ryh, .inl (G.2.1 2, ryn, .inl ry))]]) [.ref ryh, .int x] sz (fun u : Nat × Nat × (Nat → Int32) => some (.ref u.1)) (fun u : Nat × Nat × (Nat → Int32) => u.2 = f_J7_copyOf_9075b ryn ry x) (fun u : Nat × Nat × (Nat → Int32) => fl [[(ryh, .inl (G.2.1 2, ryn, .inl ry))], [(u.1, .inl (G.2.1 2, u.2.1, .inl u.2.2))]]) := by
  refine w_start (by decide +kernel) (Nat.le_of_ble_eq_true rfl) ?_
  intro p e s m below meth c A hx hb hr hml hts hown hlk hin hP hD hA hK hST ls hl
  have hS : va_S A s.heap s.heap [] := va_S.rf
  have hown : s.vm.findClass RJ7 = some m.cls := hown
  have hl : lv_has ls 3 [(0, .ref ryh), (1, .int x)] := hl
  have hF : f_J7_copyOf_9075b ryn ry x = (if x = (nI ryn) then (0, (fun _ => 0)) else (x.toNatClampNeg, (va_cpy ry (fun _ => 0) (0 : Int32).toNatClampNeg (0 : Int32).toNatClampNeg (f_J9_min_7cf53 (nI ryn) x).toNatClampNeg))) := rfl
  have hok : (if x = (nI ryn) then False else (¬ x < 0 ∧ (x.toNatClampNeg ≤ 200 ∧ (¬ (f_J9_min_7cf53 (nI ryn) x) < 0 ∧ ((0 : Int32).toNatClampNeg + (f_J9_min_7cf53 (nI ryn) x).toNatClampNeg ≤ ryn ∧ ((0 : Int32).toNatClampNeg + (f_J9_min_7cf53 (nI ryn) x).toNatClampNeg ≤ x.toNatClampNeg ∧ ((∀ i, i < (f_J9_min_7cf53 (nI ryn) x).toNatClampNeg → fits .byte (.int (ry ((0 : Int32).toNatClampNeg + i))) = true) ∧ True))))))) := hok
  refine lv_iload_n hx hb dJ7_copyOf_9075b_0 rfl (lv_at hl 1 rfl) ?_
  refine lv_aload_n hx hb dJ7_copyOf_9075b_1 rfl (lv_at hl 0 rfl) ?_
  refine va_alen (v := (nI ryn)) hx hb hK hP 0 2 rfl rfl rfl dJ7_copyOf_9075b_2 ?_
  refine lv_icmp_ne (tgt := 14) hx hb dJ7_copyOf_9075b_3 (by decide) (fun c_1 => ?_) (fun c_1 => ?_)
  · have hF := hF.trans (if_neg c_1)
    have hok := Eq.mp (if_neg c_1) hok
    refine lv_iload_n hx hb dJ7_copyOf_9075b_14 rfl (lv_at hl 1 rfl) ?_
    have h_2 := hok.1
    have hok := hok.2
    have h_3 := hok.1
    have hok := hok.2
    refine W.widen (k := 0) (n := 0) (Nat.le_refl _) (Nat.le_refl _) ?_
    refine w_newB (N := x.toNatClampNeg) hx hb (hts _ u_153) hK hP hD hS hA h_2 rfl (by have := h_3; show _ * 1 ≤ _; omega) (Nat.le_of_ble_eq_true rfl) ((by have := h_3; show 0 + _ ≤ 200; omega)) dJ7_copyOf_9075b_15 (fun q_4 H hP hD hS => ?_)
    refine W.widen (k := 1) (n := 200) (Nat.le_refl _) (by have := h_3; omega) ?_
    have hP : va_P G.1 vwCl (fl [[(ryh, .inl (G.2.1 2, ryn, .inl ry))], [(q_4, .inl (G.2.1 2, x.toNatClampNeg, .inl (fun _ => 0)))]]) H := hP
    have hD : va_D A (fl [[(ryh, .inl (G.2.1 2, ryn, .inl ry))], [(q_4, .inl (G.2.1 2, x.toNatClampNeg, .inl (fun _ => 0)))]]) := hD
    refine lv_astore_n (lv' := [(2, .ref q_4), (0, .ref ryh), (1, .int x)]) hx hb dJ7_copyOf_9075b_17 rfl hl (by decide) rfl (fun ls hl => ?_)
    refine lv_aload_n hx hb dJ7_copyOf_9075b_18 rfl (lv_at hl 1 rfl) ?_
    refine lv_iconst (v := (0 : Int32)) hx hb dJ7_copyOf_9075b_19 (by decide) ?_
    refine lv_aload_n hx hb dJ7_copyOf_9075b_20 rfl (lv_at hl 0 rfl) ?_
    refine lv_iconst (v := (0 : Int32)) hx hb dJ7_copyOf_9075b_21 (by decide) ?_
    refine lv_aload_n hx hb dJ7_copyOf_9075b_22 rfl (lv_at hl 1 rfl) ?_
    refine va_alen (v := (nI ryn)) hx hb hK hP 0 2 rfl rfl rfl dJ7_copyOf_9075b_23 ?_
    refine lv_iload_n hx hb dJ7_copyOf_9075b_24 rfl (lv_at hl 2 rfl) ?_
    refine r_S (own := RJ7) (v := (some (.int (f_J9_min_7cf53 (nI ryn) x)))) (st1 := [.int (f_J9_min_7cf53 (nI ryn) x), .int (0 : Int32), .ref q_4, .int (0 : Int32), .ref ryh]) (As := [.int (nI ryn), .int x]) (rest := [.int (0 : Int32), .ref q_4, .int (0 : Int32), .ref ryh]) (c_J9_min_7cf53 l G (nI ryn) x) ⟨hx, hb, hml, hown, hts⟩ g_J7_304 hds_J9_min_7cf53 hK hST hS hP [] rfl ⟨Nat.le_of_ble_eq_true rfl, Nat.le_of_ble_eq_true rfl⟩ ⟨Nat.le_of_ble_eq_true rfl, Nat.le_of_ble_eq_true rfl⟩ rfl hl.1 rfl (Nat.le_of_ble_eq_true rfl) dJ7_copyOf_9075b_25 rfl (fun b_5 => ?_)
    have h_6 := hok.1
    have hok := hok.2
    have h_7 := hok.1
    have hok := hok.2
    have h_8 := hok.1
    have hok := hok.2
    have h_9 := hok.1
    have hok := hok.2
    refine va_copyi (ty := .byte) hx hb (hml.trans hl.1.symm) hown (hts _ u_242) (hts _ u_244) (hts _ u_243) (hts _ u_51) hK hP hD hS 0 1 2 2 rfl rfl rfl rfl rfl (by decide) (by decide) h_6 h_7 h_8 h_9 (Nat.le_of_ble_eq_true rfl) (Nat.le_of_ble_eq_true rfl) dJ7_copyOf_9075b_28 (fun H locs hP hD hS => ?_)
    have hP : va_P G.1 vwCl (fl [[(ryh, .inl (G.2.1 2, ryn, .inl ry))], [(q_4, .inl (G.2.1 2, x.toNatClampNeg, .inl (va_cpy ry (fun _ => 0) (0 : Int32).toNatClampNeg (0 : Int32).toNatClampNeg (f_J9_min_7cf53 (nI ryn) x).toNatClampNeg)))]]) H := hP
    have hD : va_D A (fl [[(ryh, .inl (G.2.1 2, ryn, .inl ry))], [(q_4, .inl (G.2.1 2, x.toNatClampNeg, .inl (va_cpy ry (fun _ => 0) (0 : Int32).toNatClampNeg (0 : Int32).toNatClampNeg (f_J9_min_7cf53 (nI ryn) x).toNatClampNeg)))]]) := hD
    refine W.eq (g2 := F0 m 31 ls []) rfl ?_
    refine lv_aload_n hx hb dJ7_copyOf_9075b_31 rfl (lv_at hl 0 rfl) ?_
    exact w_retA (u := (q_4, (x.toNatClampNeg, (va_cpy ry (fun _ => 0) (0 : Int32).toNatClampNeg (0 : Int32).toNatClampNeg (f_J9_min_7cf53 (nI ryn) x).toNatClampNeg)))) hx hb hr hlk (Or.inr ⟨_, rfl⟩) (Or.inr ⟨_, rfl⟩) hS rfl hF.symm hP hD (Nat.le_of_ble_eq_true rfl) (Nat.le_of_ble_eq_true rfl) dJ7_copyOf_9075b_32
  · have hF := hF.trans (if_pos c_1)
    have hok := Eq.mp (if_pos c_1) hok
    exact hok.elim
theorem dJ5_ensureCapacityInternal_d00df_0 : decode cJ5_ensureCapacityInternal_d00df 0 = .ok (.aload_n 0, 1) := by decide +kernel
theorem dJ5_ensureCapacityInternal_d00df_1 : decode cJ5_ensureCapacityInternal_d00df 1 = .ok (.getfield 15, 3) := by decide +kernel
theorem dJ5_ensureCapacityInternal_d00df_4 : decode cJ5_ensureCapacityInternal_d00df 4 = .ok (.arraylength, 1) := by decide +kernel
theorem dJ5_ensureCapacityInternal_d00df_5 : decode cJ5_ensureCapacityInternal_d00df 5 = .ok (.aload_n 0, 1) := by decide +kernel
theorem dJ5_ensureCapacityInternal_d00df_6 : decode cJ5_ensureCapacityInternal_d00df 6 = .ok (.getfield 22, 3) := by decide +kernel
theorem dJ5_ensureCapacityInternal_d00df_9 : decode cJ5_ensureCapacityInternal_d00df 9 = .ok (.ishr, 1) := by decide +kernel
theorem dJ5_ensureCapacityInternal_d00df_10 : decode cJ5_ensureCapacityInternal_d00df 10 = .ok (.istore_n 2, 1) := by decide +kernel
theorem dJ5_ensureCapacityInternal_d00df_11 : decode cJ5_ensureCapacityInternal_d00df 11 = .ok (.iload_n 1, 1) := by decide +kernel
theorem dJ5_ensureCapacityInternal_d00df_12 : decode cJ5_ensureCapacityInternal_d00df 12 = .ok (.iload_n 2, 1) := by decide +kernel
theorem dJ5_ensureCapacityInternal_d00df_13 : decode cJ5_ensureCapacityInternal_d00df 13 = .ok (.isub, 1) := by decide +kernel
theorem dJ5_ensureCapacityInternal_d00df_14 : decode cJ5_ensureCapacityInternal_d00df 14 = .ok (.ifCond .le 24, 3) := by decide +kernel
theorem dJ5_ensureCapacityInternal_d00df_38 : decode cJ5_ensureCapacityInternal_d00df 38 = .ok (.return_, 1) := by decide +kernel
theorem dJ5_ensureCapacityInternal_d00df_17 : decode cJ5_ensureCapacityInternal_d00df 17 = .ok (.aload_n 0, 1) := by decide +kernel
theorem dJ5_ensureCapacityInternal_d00df_18 : decode cJ5_ensureCapacityInternal_d00df 18 = .ok (.aload_n 0, 1) := by decide +kernel
theorem dJ5_ensureCapacityInternal_d00df_19 : decode cJ5_ensureCapacityInternal_d00df 19 = .ok (.getfield 15, 3) := by decide +kernel
theorem dJ5_ensureCapacityInternal_d00df_22 : decode cJ5_ensureCapacityInternal_d00df 22 = .ok (.aload_n 0, 1) := by decide +kernel
theorem dJ5_ensureCapacityInternal_d00df_23 : decode cJ5_ensureCapacityInternal_d00df 23 = .ok (.iload_n 1, 1) := by decide +kernel
theorem dJ5_ensureCapacityInternal_d00df_24 : decode cJ5_ensureCapacityInternal_d00df 24 = .ok (.invokevirtual 104, 3) := by decide +kernel
theorem gP_J5_104 : Cond.privateMethod yJ5_newCapacity_0f7a4 ∈ CW := cwm 215 (by decide +kernel) rfl
theorem u_214 : Cond.methodLink RJ5 104 yJ5_newCapacity_0f7a4 ∈ UW := uw 214 (by decide +kernel) rfl
theorem u_217 : Cond.code yJ5_newCapacity_0f7a4 cJ5_newCapacity_0f7a4 6 (some .int) ∈ UW := uw 217 (by decide +kernel) rfl
theorem u_216 : Cond.instanceMethod yJ5_newCapacity_0f7a4 ∈ UW := uw 216 (by decide +kernel) rfl
theorem u_1593 : Cond.sameMethod RJ5 RJ5 "newCapacity" "(I)I" ∈ UW := uw 1593 (by decide +kernel) rfl
theorem hds_J5_newCapacity_0f7a4 : yJ5_newCapacity_0f7a4.cls ≠ "java/lang/invoke/MethodHandle" ∧ yJ5_newCapacity_0f7a4.cls ≠ "java/lang/invoke/VarHandle" ∧ (parseMethodDescriptor yJ5_newCapacity_0f7a4.desc).map (fun d => d.parameters.length) = some 1 := by decide +kernel
theorem dJ5_ensureCapacityInternal_d00df_27 : decode cJ5_ensureCapacityInternal_d00df 27 = .ok (.aload_n 0, 1) := by decide +kernel
theorem dJ5_ensureCapacityInternal_d00df_28 : decode cJ5_ensureCapacityInternal_d00df 28 = .ok (.getfield 22, 3) := by decide +kernel
theorem dJ5_ensureCapacityInternal_d00df_31 : decode cJ5_ensureCapacityInternal_d00df 31 = .ok (.ishl, 1) := by decide +kernel
theorem dJ5_ensureCapacityInternal_d00df_32 : decode cJ5_ensureCapacityInternal_d00df 32 = .ok (.invokestatic 108, 3) := by decide +kernel
theorem u_229 : Cond.methodLink RJ5 108 yJ7_copyOf_9075b ∈ UW := uw 229 (by decide +kernel) rfl
theorem u_230 : Cond.static yJ7_copyOf_9075b ∈ UW := uw 230 (by decide +kernel) rfl
theorem u_50 : Cond.initialized RJ7 ∈ UW := uw 50 (by decide +kernel) rfl
theorem u_231 : Cond.code yJ7_copyOf_9075b cJ7_copyOf_9075b 3 (some (.array .byte)) ∈ UW := uw 231 (by decide +kernel) rfl
theorem g_J5_108 : GoodIn UW (va_wsS RJ5 108 yJ7_copyOf_9075b (wsU yJ7_copyOf_9075b cJ7_copyOf_9075b 3 (some (.array .byte)))) := gS u_229 u_230 u_50 u_231
theorem hds_J7_copyOf_9075b : yJ7_copyOf_9075b.cls ≠ "java/lang/invoke/MethodHandle" ∧ yJ7_copyOf_9075b.cls ≠ "java/lang/invoke/VarHandle" ∧ (parseMethodDescriptor yJ7_copyOf_9075b.desc).map (fun d => d.parameters.length) = some 2 := by decide +kernel
theorem dJ5_ensureCapacityInternal_d00df_35 : decode cJ5_ensureCapacityInternal_d00df 35 = .ok (.putfield 15, 3) := by decide +kernel
def f_J5_ensureCapacityInternal_d00df (sb : SbV) (x : Int32) : SbV := (if (x - (nI sb.1)) ≤ (0 : Int32) then sb else (let u_7 : Nat × (Nat → Int32) := (f_J7_copyOf_9075b sb.1 sb.2.1 (f_J5_newCapacity_0f7a4 sb x)); (u_7.1, u_7.2, sb.2.2.1, sb.2.2.2)))
def ok_J5_ensureCapacityInternal_d00df (sb : SbV) (x : Int32) : Prop := (if (x - (nI sb.1)) ≤ (0 : Int32) then True else (ok_J5_newCapacity_0f7a4 sb x ∧ (ok_J7_copyOf_9075b sb.1 sb.2.1 (f_J5_newCapacity_0f7a4 sb x) ∧ (sb.1 < 2147483648 ∧ True))))
set_option maxHeartbeats 4000000 in
set_option maxRecDepth 100000 in
theorem c_J5_ensureCapacityInternal_d00df (l : Launch) (G : GG) (sbh0 : Nat) (sbh1 : Nat) (sz : Nat) (sb : SbV) (x : Int32) (hok : ok_J5_ensureCapacityInternal_d00df sb x) : wMet l yJ5_ensureCapacityInternal_d00df cJ5_ensureCapacityInternal_d00df 3 none 4 1 200 G (fl [[(sbh0, .inr (1, [.ref sbh1, .int (0 : Int32), .int sb.2.2.1, .int sb.2.2.2]))], [(sbh1, .inl (G.2.1 2, sb.1, .inl sb.2.1))]]) [.ref sbh0, .int x] sz (fun u : Nat × SbV => none) (fun u : Nat × SbV => u.2 = f_J5_ensureCapacityInternal_d00df sb x) (fun u : Nat × SbV => fl [[(sbh0, .inr (1, [.ref u.1, .int (0 : Int32), .int u.2.2.2.1, .int u.2.2.2.2]))], [(u.1, .inl (G.2.1 2, u.2.1, .inl u.2.2.1))]]) := by
  refine w_start (by decide +kernel) (Nat.le_of_ble_eq_true rfl) ?_
  intro p e s m below meth c A hx hb hr hml hts hown hlk hin hP hD hA hK hST ls hl
  have hS : va_S A s.heap s.heap [] := va_S.rf
  have hown : s.vm.findClass RJ5 = some m.cls := hown
  have hl : lv_has ls 3 [(0, .ref sbh0), (1, .int x)] := hl
  have hF : f_J5_ensureCapacityInternal_d00df sb x = (if (x - (nI sb.1)) ≤ (0 : Int32) then sb else (let u_7 : Nat × (Nat → Int32) := (f_J7_copyOf_9075b sb.1 sb.2.1 (f_J5_newCapacity_0f7a4 sb x)); (u_7.1, u_7.2, sb.2.2.1, sb.2.2.2))) := rfl
  have hok : (if (x - (nI sb.1)) ≤ (0 : Int32) then True else (ok_J5_newCapacity_0f7a4 sb x ∧ (ok_J7_copyOf_9075b sb.1 sb.2.1 (f_J5_newCapacity_0f7a4 sb x) ∧ (sb.1 < 2147483648 ∧ True)))) := hok
  refine lv_aload_n hx hb dJ5_ensureCapacityInternal_d00df_0 rfl (lv_at hl 0 rfl) ?_
  refine va_get (D := G.1) (ci := 1) (v := .ref sbh1) (C := RJ4) (T := TJ4) (N := 4) hx hb hts uws_J4 hown hK hP 0 rfl rfl 0 (by decide) (hts _ u_185) (fun _ h9 => h9) rfl dJ5_ensureCapacityInternal_d00df_1 ?_
  refine va_alen (v := (nI sb.1)) hx hb hK hP 1 2 rfl rfl rfl dJ5_ensureCapacityInternal_d00df_4 ?_
  refine lv_aload_n hx hb dJ5_ensureCapacityInternal_d00df_5 rfl (lv_at hl 0 rfl) ?_
  refine va_get (D := G.1) (ci := 1) (v := .int (0 : Int32)) (C := RJ4) (T := TJ4) (N := 4) hx hb hts uws_J4 hown hK hP 0 rfl rfl 1 (by decide) (hts _ u_186) (fun _ h9 => h9) rfl dJ5_ensureCapacityInternal_d00df_6 ?_
  refine lv_ishr hx hb dJ5_ensureCapacityInternal_d00df_9 ?_
  rw [sb_shr0]
  refine lv_istore_n (lv' := [(2, .int (nI sb.1)), (0, .ref sbh0), (1, .int x)]) hx hb dJ5_ensureCapacityInternal_d00df_10 rfl hl (by decide) rfl (fun ls hl => ?_)
  refine lv_iload_n hx hb dJ5_ensureCapacityInternal_d00df_11 rfl (lv_at hl 2 rfl) ?_
  refine lv_iload_n hx hb dJ5_ensureCapacityInternal_d00df_12 rfl (lv_at hl 0 rfl) ?_
  refine lv_isub hx hb dJ5_ensureCapacityInternal_d00df_13 ?_
  refine lv_if_le (tgt := 38) hx hb dJ5_ensureCapacityInternal_d00df_14 (by decide) (fun c_1 => ?_) (fun c_1 => ?_)
  · have hF := hF.trans (if_pos c_1)
    have hok := Eq.mp (if_pos c_1) hok
    exact w_retV (u := (sbh1, sb)) hx hb hr hlk hS rfl hF.symm hP hD (Nat.le_of_ble_eq_true rfl) (Nat.le_of_ble_eq_true rfl) dJ5_ensureCapacityInternal_d00df_38
  · have hF := hF.trans (if_neg c_1)
    have hok := Eq.mp (if_neg c_1) hok
    refine lv_aload_n hx hb dJ5_ensureCapacityInternal_d00df_17 rfl (lv_at hl 1 rfl) ?_
    refine lv_aload_n hx hb dJ5_ensureCapacityInternal_d00df_18 rfl (lv_at hl 1 rfl) ?_
    refine va_get (D := G.1) (ci := 1) (v := .ref sbh1) (C := RJ4) (T := TJ4) (N := 4) hx hb hts uws_J4 hown hK hP 0 rfl rfl 0 (by decide) (hts _ u_185) (fun _ h9 => h9) rfl dJ5_ensureCapacityInternal_d00df_19 ?_
    refine lv_aload_n hx hb dJ5_ensureCapacityInternal_d00df_22 rfl (lv_at hl 1 rfl) ?_
    refine lv_iload_n hx hb dJ5_ensureCapacityInternal_d00df_23 rfl (lv_at hl 2 rfl) ?_
    have k_2 := hok.1
    have hok := hok.2
    refine r_P (own := RJ5) (v := (some (.int (f_J5_newCapacity_0f7a4 sb x)))) (st1 := [.int (f_J5_newCapacity_0f7a4 sb x), .ref sbh1, .ref sbh0]) (As := [.int x]) (rest := [.ref sbh1, .ref sbh0]) (c_J5_newCapacity_0f7a4 l G sbh0 sbh1 sb x k_2) ⟨hx, hb, hml, hown, hts⟩ u_214 u_217 u_29 u_216 gP_J5_104 u_1593 rfl hds_J5_newCapacity_0f7a4 hK hST hS hP [0, 1] rfl (va_recv hK hP (ci := 1) (q0 := 0) rfl rfl) ⟨Nat.le_of_ble_eq_true rfl, Nat.le_of_ble_eq_true rfl⟩ ⟨Nat.le_of_ble_eq_true rfl, Nat.le_of_ble_eq_true rfl⟩ rfl hl.1 rfl (Nat.le_of_ble_eq_true rfl) dJ5_ensureCapacityInternal_d00df_24 rfl (fun b_3 => ?_)
    refine lv_aload_n hx hb dJ5_ensureCapacityInternal_d00df_27 rfl (lv_at hl 1 rfl) ?_
    refine va_get (D := G.1) (ci := 1) (v := .int (0 : Int32)) (C := RJ4) (T := TJ4) (N := 4) hx hb hts uws_J4 hown hK hP 0 rfl rfl 1 (by decide) (hts _ u_186) (fun _ h9 => h9) rfl dJ5_ensureCapacityInternal_d00df_28 ?_
    refine lv_ishl hx hb dJ5_ensureCapacityInternal_d00df_31 ?_
    rw [sb_shl0]
    have k_4 := hok.1
    have hok := hok.2
    have k_5 := hok.1
    have hok := hok.2
    refine w_S (own := RJ5) (cs := [[(sbh1, .inl (G.2.1 2, sb.1, .inl sb.2.1))]]) (rs := [[(sbh0, .inr (1, [.ref sbh1, .int (0 : Int32), .int sb.2.2.1, .int sb.2.2.2]))]]) (As := [.ref sbh1, .int (f_J5_newCapacity_0f7a4 sb x)]) (rest := [.ref sbh0]) (c_J7_copyOf_9075b l G sbh1 s.heap.size sb.1 sb.2.1 (f_J5_newCapacity_0f7a4 sb x) k_4 k_5) ⟨hx, hb, hml, hown, hts⟩ g_J5_108 hds_J7_copyOf_9075b hK hST hS hP hD hA [1] [0] rfl rfl rfl ⟨Nat.le_of_ble_eq_true rfl, Nat.le_of_ble_eq_true rfl⟩ ⟨Nat.le_of_ble_eq_true rfl, Nat.le_of_ble_eq_true rfl⟩ rfl hl.1 rfl (Nat.le_of_ble_eq_true rfl) dJ5_ensureCapacityInternal_d00df_32 (fun u_7 H locs huu hP hD hS => ?_)
    obtain ⟨qu_7, u_7⟩ := u_7
    have eu_7 : u_7 = (f_J7_copyOf_9075b sb.1 sb.2.1 (f_J5_newCapacity_0f7a4 sb x)) := huu
    have hP : va_P G.1 vwCl (fl [[(sbh1, .inl (G.2.1 2, sb.1, .inl sb.2.1))], [(qu_7, .inl (G.2.1 2, u_7.1, .inl u_7.2))], [(sbh0, .inr (1, [.ref sbh1, .int (0 : Int32), .int sb.2.2.1, .int sb.2.2.2]))]]) H := hP
    have hD : va_D A (fl [[(sbh1, .inl (G.2.1 2, sb.1, .inl sb.2.1))], [(qu_7, .inl (G.2.1 2, u_7.1, .inl u_7.2))], [(sbh0, .inr (1, [.ref sbh1, .int (0 : Int32), .int sb.2.2.1, .int sb.2.2.2]))]]) := hD
    refine W.eq (g2 := F0 m 35 ls [.ref qu_7, .ref sbh0]) rfl ?_
    have hF : f_J5_ensureCapacityInternal_d00df sb x = (u_7.1, u_7.2, sb.2.2.1, sb.2.2.2) := by subst eu_7; exact hF
    refine va_put (D := G.1) (ci := 1) (v := .ref qu_7) (ty := .array .byte) (C := RJ4) (T := TJ4) (N := 4) hx hb hts uws_J4 tyJ4 tyJ4_ok nmJ4 hown hK hP hD hS 2 rfl rfl 0 (by decide) (hts _ u_185) (fun _ h9 => h9) rfl (by decide +kernel) rfl rfl (Nat.le_of_ble_eq_true rfl) dJ5_ensureCapacityInternal_d00df_35 (fun H locs hP hD hS => ?_)
    have hP : va_P G.1 vwCl (fl [[(sbh1, .inl (G.2.1 2, sb.1, .inl sb.2.1))], [(qu_7, .inl (G.2.1 2, u_7.1, .inl u_7.2))], [(sbh0, .inr (1, [.ref qu_7, .int (0 : Int32), .int sb.2.2.1, .int sb.2.2.2]))]]) H := hP
    have hD : va_D A (fl [[(sbh1, .inl (G.2.1 2, sb.1, .inl sb.2.1))], [(qu_7, .inl (G.2.1 2, u_7.1, .inl u_7.2))], [(sbh0, .inr (1, [.ref qu_7, .int (0 : Int32), .int sb.2.2.1, .int sb.2.2.2]))]]) := hD
    have hP := fl_sub (cs := [[(sbh0, .inr (1, [.ref qu_7, .int (0 : Int32), .int sb.2.2.1, .int sb.2.2.2]))], [(qu_7, .inl (G.2.1 2, u_7.1, .inl u_7.2))]]) [2, 1] rfl hP
    have hD := fl_subD (cs := [[(sbh0, .inr (1, [.ref qu_7, .int (0 : Int32), .int sb.2.2.1, .int sb.2.2.2]))], [(qu_7, .inl (G.2.1 2, u_7.1, .inl u_7.2))]]) [2, 1] rfl rfl hD
    exact w_retV (u := (qu_7, (u_7.1, u_7.2, sb.2.2.1, sb.2.2.2))) hx hb hr hlk hS rfl hF.symm hP hD (Nat.le_of_ble_eq_true rfl) (Nat.le_of_ble_eq_true rfl) dJ5_ensureCapacityInternal_d00df_38
theorem dJ5_append_3fe6f_0 : decode cJ5_append_3fe6f 0 = .ok (.aload_n 0, 1) := by decide +kernel
theorem dJ5_append_3fe6f_1 : decode cJ5_append_3fe6f 1 = .ok (.aload_n 0, 1) := by decide +kernel
theorem dJ5_append_3fe6f_2 : decode cJ5_append_3fe6f 2 = .ok (.getfield 79, 3) := by decide +kernel
theorem dJ5_append_3fe6f_5 : decode cJ5_append_3fe6f 5 = .ok (.iconst 1, 1) := by decide +kernel
theorem dJ5_append_3fe6f_6 : decode cJ5_append_3fe6f 6 = .ok (.iadd, 1) := by decide +kernel
theorem dJ5_append_3fe6f_7 : decode cJ5_append_3fe6f 7 = .ok (.invokevirtual 100, 3) := by decide +kernel
theorem gP_J5_100 : Cond.privateMethod yJ5_ensureCapacityInternal_d00df ∈ CW := cwm 211 (by decide +kernel) rfl
theorem u_210 : Cond.methodLink RJ5 100 yJ5_ensureCapacityInternal_d00df ∈ UW := uw 210 (by decide +kernel) rfl
theorem u_213 : Cond.code yJ5_ensureCapacityInternal_d00df cJ5_ensureCapacityInternal_d00df 3 none ∈ UW := uw 213 (by decide +kernel) rfl
theorem u_212 : Cond.instanceMethod yJ5_ensureCapacityInternal_d00df ∈ UW := uw 212 (by decide +kernel) rfl
theorem u_1592 : Cond.sameMethod RJ5 RJ5 "ensureCapacityInternal" "(I)V" ∈ UW := uw 1592 (by decide +kernel) rfl
theorem hds_J5_ensureCapacityInternal_d00df : yJ5_ensureCapacityInternal_d00df.cls ≠ "java/lang/invoke/MethodHandle" ∧ yJ5_ensureCapacityInternal_d00df.cls ≠ "java/lang/invoke/VarHandle" ∧ (parseMethodDescriptor yJ5_ensureCapacityInternal_d00df.desc).map (fun d => d.parameters.length) = some 1 := by decide +kernel
theorem dJ5_append_3fe6f_10 : decode cJ5_append_3fe6f 10 = .ok (.aload_n 0, 1) := by decide +kernel
theorem dJ5_append_3fe6f_11 : decode cJ5_append_3fe6f 11 = .ok (.invokevirtual 83, 3) := by decide +kernel
theorem u_245 : Cond.methodLink RJ5 83 yJ5_isLatin1_aae02 ∈ UW := uw 245 (by decide +kernel) rfl
theorem u_247 : Cond.sameMethod RJ5 RJ5 "isLatin1" "()Z" ∈ UW := uw 247 (by decide +kernel) rfl
theorem u_248 : Cond.selects RJ4 yJ5_isLatin1_aae02 yJ5_isLatin1_aae02 ∈ UW := uw 248 (by decide +kernel) rfl
theorem u_246 : Cond.instanceMethod yJ5_isLatin1_aae02 ∈ UW := uw 246 (by decide +kernel) rfl
theorem u_249 : Cond.code yJ5_isLatin1_aae02 cJ5_isLatin1_aae02 1 (some .boolean) ∈ UW := uw 249 (by decide +kernel) rfl
theorem gU_J5_83 : GoodIn UW (va_wsU RJ5 83 RJ4 "java/lang/AbstractStringBuilder" yJ5_isLatin1_aae02 yJ5_isLatin1_aae02 (wsU yJ5_isLatin1_aae02 cJ5_isLatin1_aae02 1 (some .boolean))) := gU u_245 u_247 u_248 u_246 u_29 u_249
theorem hdu_J5_isLatin1_aae02 : ("java/lang/AbstractStringBuilder" : String) ≠ "java/lang/invoke/MethodHandle" ∧ ("java/lang/AbstractStringBuilder" : String) ≠ "java/lang/invoke/VarHandle" ∧ (parseMethodDescriptor yJ5_isLatin1_aae02.desc).map (fun d => d.parameters.length) = some 0 := by decide +kernel
theorem dJ5_append_3fe6f_14 : decode cJ5_append_3fe6f 14 = .ok (.ifCond .eq 31, 3) := by decide +kernel
theorem dJ5_append_3fe6f_17 : decode cJ5_append_3fe6f 17 = .ok (.iload_n 1, 1) := by decide +kernel
theorem dJ5_append_3fe6f_18 : decode cJ5_append_3fe6f 18 = .ok (.invokestatic 191, 3) := by decide +kernel
theorem u_479 : Cond.methodLink RJ5 191 yJ1_canEncode_fc78d ∈ UW := uw 479 (by decide +kernel) rfl
theorem u_480 : Cond.static yJ1_canEncode_fc78d ∈ UW := uw 480 (by decide +kernel) rfl
theorem u_481 : Cond.code yJ1_canEncode_fc78d cJ1_canEncode_fc78d 1 (some .boolean) ∈ UW := uw 481 (by decide +kernel) rfl
theorem g_J5_191 : GoodIn UW (va_wsS RJ5 191 yJ1_canEncode_fc78d (wsU yJ1_canEncode_fc78d cJ1_canEncode_fc78d 1 (some .boolean))) := gS u_479 u_480 u_53 u_481
theorem hds_J1_canEncode_fc78d : yJ1_canEncode_fc78d.cls ≠ "java/lang/invoke/MethodHandle" ∧ yJ1_canEncode_fc78d.cls ≠ "java/lang/invoke/VarHandle" ∧ (parseMethodDescriptor yJ1_canEncode_fc78d.desc).map (fun d => d.parameters.length) = some 1 := by decide +kernel
theorem dJ5_append_3fe6f_21 : decode cJ5_append_3fe6f 21 = .ok (.ifCond .eq 24, 3) := by decide +kernel
theorem dJ5_append_3fe6f_24 : decode cJ5_append_3fe6f 24 = .ok (.aload_n 0, 1) := by decide +kernel
theorem dJ5_append_3fe6f_25 : decode cJ5_append_3fe6f 25 = .ok (.getfield 15, 3) := by decide +kernel
theorem dJ5_append_3fe6f_28 : decode cJ5_append_3fe6f 28 = .ok (.aload_n 0, 1) := by decide +kernel
theorem dJ5_append_3fe6f_29 : decode cJ5_append_3fe6f 29 = .ok (.dup, 1) := by decide +kernel
theorem dJ5_append_3fe6f_30 : decode cJ5_append_3fe6f 30 = .ok (.getfield 79, 3) := by decide +kernel
theorem dJ5_append_3fe6f_33 : decode cJ5_append_3fe6f 33 = .ok (.dup_x1, 1) := by decide +kernel
theorem dJ5_append_3fe6f_34 : decode cJ5_append_3fe6f 34 = .ok (.iconst 1, 1) := by decide +kernel
theorem dJ5_append_3fe6f_35 : decode cJ5_append_3fe6f 35 = .ok (.iadd, 1) := by decide +kernel
theorem dJ5_append_3fe6f_36 : decode cJ5_append_3fe6f 36 = .ok (.putfield 79, 3) := by decide +kernel
theorem dJ5_append_3fe6f_39 : decode cJ5_append_3fe6f 39 = .ok (.iload_n 1, 1) := by decide +kernel
theorem dJ5_append_3fe6f_40 : decode cJ5_append_3fe6f 40 = .ok (.i2b, 1) := by decide +kernel
theorem dJ5_append_3fe6f_41 : decode cJ5_append_3fe6f 41 = .ok (.bastore, 1) := by decide +kernel
theorem dJ5_append_3fe6f_42 : decode cJ5_append_3fe6f 42 = .ok (.goto 33, 3) := by decide +kernel
theorem dJ5_append_3fe6f_75 : decode cJ5_append_3fe6f 75 = .ok (.aload_n 0, 1) := by decide +kernel
theorem dJ5_append_3fe6f_76 : decode cJ5_append_3fe6f 76 = .ok (.areturn, 1) := by decide +kernel
def f_J5_append_3fe6f (sb : SbV) (x : Int32) : SbV := (let u_3 : SbV := (f_J5_ensureCapacityInternal_d00df sb (sb.2.2.2 + (1 : Int32))); (if (f_J1_canEncode_fc78d x) = (0 : Int32) then sb else (u_3.1, (upd u_3.2.1 u_3.2.2.2.toNatClampNeg (vp_nar .byte (x.toInt8.toInt32))), u_3.2.2.1, (u_3.2.2.2 + (1 : Int32)))))
def ok_J5_append_3fe6f (sb : SbV) (x : Int32) : Prop := (ok_J5_ensureCapacityInternal_d00df sb (sb.2.2.2 + (1 : Int32)) ∧ (let u_3 : SbV := (f_J5_ensureCapacityInternal_d00df sb (sb.2.2.2 + (1 : Int32))); (if (f_J1_canEncode_fc78d x) = (0 : Int32) then False else (vp_in u_3.2.2.2 u_3.1 ∧ True))))
set_option maxHeartbeats 4000000 in
set_option maxRecDepth 100000 in
theorem c_J5_append_3fe6f (l : Launch) (G : GG) (sbh0 : Nat) (sbh1 : Nat) (sz : Nat) (sb : SbV) (x : Int32) (hok : ok_J5_append_3fe6f sb x) : wMet l yJ5_append_3fe6f cJ5_append_3fe6f 2 (some (.object "java/lang/AbstractStringBuilder")) 5 1 200 G (fl [[(sbh0, .inr (1, [.ref sbh1, .int (0 : Int32), .int sb.2.2.1, .int sb.2.2.2]))], [(sbh1, .inl (G.2.1 2, sb.1, .inl sb.2.1))]]) [.ref sbh0, .int x] sz (fun u : Nat × SbV => some (.ref sbh0)) (fun u : Nat × SbV => u.2 = f_J5_append_3fe6f sb x) (fun u : Nat × SbV => fl [[(sbh0, .inr (1, [.ref u.1, .int (0 : Int32), .int u.2.2.2.1, .int u.2.2.2.2]))], [(u.1, .inl (G.2.1 2, u.2.1, .inl u.2.2.1))]]) := by
  refine w_start (by decide +kernel) (Nat.le_of_ble_eq_true rfl) ?_
  intro p e s m below meth c A hx hb hr hml hts hown hlk hin hP hD hA hK hST ls hl
  have hS : va_S A s.heap s.heap [] := va_S.rf
  have hown : s.vm.findClass RJ5 = some m.cls := hown
  have hl : lv_has ls 2 [(0, .ref sbh0), (1, .int x)] := hl
  have hF : f_J5_append_3fe6f sb x = (let u_3 : SbV := (f_J5_ensureCapacityInternal_d00df sb (sb.2.2.2 + (1 : Int32))); (if (f_J1_canEncode_fc78d x) = (0 : Int32) then sb else (u_3.1, (upd u_3.2.1 u_3.2.2.2.toNatClampNeg (vp_nar .byte (x.toInt8.toInt32))), u_3.2.2.1, (u_3.2.2.2 + (1 : Int32))))) := rfl
  have hok : (ok_J5_ensureCapacityInternal_d00df sb (sb.2.2.2 + (1 : Int32)) ∧ (let u_3 : SbV := (f_J5_ensureCapacityInternal_d00df sb (sb.2.2.2 + (1 : Int32))); (if (f_J1_canEncode_fc78d x) = (0 : Int32) then False else (vp_in u_3.2.2.2 u_3.1 ∧ True)))) := hok
  refine lv_aload_n hx hb dJ5_append_3fe6f_0 rfl (lv_at hl 0 rfl) ?_
  refine lv_aload_n hx hb dJ5_append_3fe6f_1 rfl (lv_at hl 0 rfl) ?_
  refine va_get (D := G.1) (ci := 1) (v := .int sb.2.2.2) (C := RJ4) (T := TJ4) (N := 4) hx hb hts uws_J4 hown hK hP 0 rfl rfl 3 (by decide) (hts _ u_189) (fun _ h9 => h9) rfl dJ5_append_3fe6f_2 ?_
  refine lv_iconst (v := (1 : Int32)) hx hb dJ5_append_3fe6f_5 (by decide) ?_
  refine lv_iadd hx hb dJ5_append_3fe6f_6 ?_
  have k_1 := hok.1
  have hok := hok.2
  refine w_P (own := RJ5) (cs := [[(sbh0, .inr (1, [.ref sbh1, .int (0 : Int32), .int sb.2.2.1, .int sb.2.2.2]))], [(sbh1, .inl (G.2.1 2, sb.1, .inl sb.2.1))]]) (rs := []) (As := [.int (sb.2.2.2 + (1 : Int32))]) (rest := []) (c_J5_ensureCapacityInternal_d00df l G sbh0 sbh1 s.heap.size sb (sb.2.2.2 + (1 : Int32)) k_1) ⟨hx, hb, hml, hown, hts⟩ u_210 u_213 u_29 u_212 gP_J5_100 u_1592 rfl hds_J5_ensureCapacityInternal_d00df hK hST hS hP hD hA [0, 1] [] rfl rfl rfl (va_recv hK hP (ci := 1) (q0 := 0) rfl rfl) ⟨Nat.le_of_ble_eq_true rfl, Nat.le_of_ble_eq_true rfl⟩ ⟨Nat.le_of_ble_eq_true rfl, Nat.le_of_ble_eq_true rfl⟩ rfl hl.1 rfl (Nat.le_of_ble_eq_true rfl) dJ5_append_3fe6f_7 (fun u_3 H locs huu hP hD hS => ?_)
  obtain ⟨qu_3, u_3⟩ := u_3
  have eu_3 : u_3 = (f_J5_ensureCapacityInternal_d00df sb (sb.2.2.2 + (1 : Int32))) := huu
  have hP : va_P G.1 vwCl (fl [[(sbh0, .inr (1, [.ref qu_3, .int (0 : Int32), .int u_3.2.2.1, .int u_3.2.2.2]))], [(qu_3, .inl (G.2.1 2, u_3.1, .inl u_3.2.1))]]) H := hP
  have hD : va_D A (fl [[(sbh0, .inr (1, [.ref qu_3, .int (0 : Int32), .int u_3.2.2.1, .int u_3.2.2.2]))], [(qu_3, .inl (G.2.1 2, u_3.1, .inl u_3.2.1))]]) := hD
  refine W.eq (g2 := F0 m 10 ls []) rfl ?_
  have hF : f_J5_append_3fe6f sb x = (if (f_J1_canEncode_fc78d x) = (0 : Int32) then sb else (u_3.1, (upd u_3.2.1 u_3.2.2.2.toNatClampNeg (vp_nar .byte (x.toInt8.toInt32))), u_3.2.2.1, (u_3.2.2.2 + (1 : Int32)))) := by subst eu_3; exact hF
  have hok : (if (f_J1_canEncode_fc78d x) = (0 : Int32) then False else (vp_in u_3.2.2.2 u_3.1 ∧ True)) := by subst eu_3; exact hok
  refine lv_aload_n hx hb dJ5_append_3fe6f_10 rfl (lv_at hl 0 rfl) ?_
  refine r_U (own := RJ5) (v := (some (.int (1 : Int32)))) (st1 := [.int (1 : Int32)]) (As := []) (rest := []) (c_J5_isLatin1_aae02 l G sbh0 qu_3 u_3) ⟨hx, hb, hml, hown, hts⟩ gU_J5_83 hdu_J5_isLatin1_aae02 rfl hK hST hS hP [0, 1] rfl (va_recv hK hP (ci := 1) (q0 := 0) rfl rfl) ⟨Nat.le_of_ble_eq_true rfl, Nat.le_of_ble_eq_true rfl⟩ ⟨Nat.le_of_ble_eq_true rfl, Nat.le_of_ble_eq_true rfl⟩ rfl hl.1 rfl (Nat.le_of_ble_eq_true rfl) dJ5_append_3fe6f_11 rfl (fun b_4 => ?_)
  refine lv_if_eq (tgt := 45) hx hb dJ5_append_3fe6f_14 (by decide) (fun c_5 => ?_) (fun c_5 => ?_)
  · exact absurd c_5 (by decide)
  · refine lv_iload_n hx hb dJ5_append_3fe6f_17 rfl (lv_at hl 1 rfl) ?_
    refine r_S (own := RJ5) (v := (some (.int (f_J1_canEncode_fc78d x)))) (st1 := [.int (f_J1_canEncode_fc78d x)]) (As := [.int x]) (rest := []) (c_J1_canEncode_fc78d l G x) ⟨hx, hb, hml, hown, hts⟩ g_J5_191 hds_J1_canEncode_fc78d hK hST hS hP [] rfl ⟨Nat.le_of_ble_eq_true rfl, Nat.le_of_ble_eq_true rfl⟩ ⟨Nat.le_of_ble_eq_true rfl, Nat.le_of_ble_eq_true rfl⟩ rfl hl.1 rfl (Nat.le_of_ble_eq_true rfl) dJ5_append_3fe6f_18 rfl (fun b_6 => ?_)
    refine lv_if_eq (tgt := 45) hx hb dJ5_append_3fe6f_21 (by decide) (fun c_7 => ?_) (fun c_7 => ?_)
    · have hF := hF.trans (if_pos c_7)
      have hok := Eq.mp (if_pos c_7) hok
      exact hok.elim
    · have hF := hF.trans (if_neg c_7)
      have hok := Eq.mp (if_neg c_7) hok
      refine lv_aload_n hx hb dJ5_append_3fe6f_24 rfl (lv_at hl 0 rfl) ?_
      refine va_get (D := G.1) (ci := 1) (v := .ref qu_3) (C := RJ4) (T := TJ4) (N := 4) hx hb hts uws_J4 hown hK hP 0 rfl rfl 0 (by decide) (hts _ u_185) (fun _ h9 => h9) rfl dJ5_append_3fe6f_25 ?_
      refine lv_aload_n hx hb dJ5_append_3fe6f_28 rfl (lv_at hl 0 rfl) ?_
      refine lv_dup hx hb dJ5_append_3fe6f_29 rfl ?_
      refine va_get (D := G.1) (ci := 1) (v := .int u_3.2.2.2) (C := RJ4) (T := TJ4) (N := 4) hx hb hts uws_J4 hown hK hP 0 rfl rfl 3 (by decide) (hts _ u_189) (fun _ h9 => h9) rfl dJ5_append_3fe6f_30 ?_
      refine lv_dup_x1 hx hb dJ5_append_3fe6f_33 rfl rfl ?_
      refine lv_iconst (v := (1 : Int32)) hx hb dJ5_append_3fe6f_34 (by decide) ?_
      refine lv_iadd hx hb dJ5_append_3fe6f_35 ?_
      refine va_put (D := G.1) (ci := 1) (v := .int (u_3.2.2.2 + (1 : Int32))) (ty := .int) (C := RJ4) (T := TJ4) (N := 4) hx hb hts uws_J4 tyJ4 tyJ4_ok nmJ4 hown hK hP hD hS 0 rfl rfl 3 (by decide) (hts _ u_189) (fun _ h9 => h9) rfl (by decide +kernel) rfl rfl (Nat.le_of_ble_eq_true rfl) dJ5_append_3fe6f_36 (fun H locs hP hD hS => ?_)
      have hP : va_P G.1 vwCl (fl [[(sbh0, .inr (1, [.ref qu_3, .int (0 : Int32), .int u_3.2.2.1, .int (u_3.2.2.2 + (1 : Int32))]))], [(qu_3, .inl (G.2.1 2, u_3.1, .inl u_3.2.1))]]) H := hP
      have hD : va_D A (fl [[(sbh0, .inr (1, [.ref qu_3, .int (0 : Int32), .int u_3.2.2.1, .int (u_3.2.2.2 + (1 : Int32))]))], [(qu_3, .inl (G.2.1 2, u_3.1, .inl u_3.2.1))]]) := hD
      refine lv_iload_n hx hb dJ5_append_3fe6f_39 rfl (lv_at hl 1 rfl) ?_
      refine lv_i2b hx hb dJ5_append_3fe6f_40 rfl ?_
      have h_8 := hok.1
      have hok := hok.2
      refine va_bast hx hb hK hP hD hS 1 2 rfl rfl h_8 dJ5_append_3fe6f_41 (fun H locs hP hD hS => ?_)
      have hP : va_P G.1 vwCl (fl [[(sbh0, .inr (1, [.ref qu_3, .int (0 : Int32), .int u_3.2.2.1, .int (u_3.2.2.2 + (1 : Int32))]))], [(qu_3, .inl (G.2.1 2, u_3.1, .inl (upd u_3.2.1 u_3.2.2.2.toNatClampNeg (vp_nar .byte (x.toInt8.toInt32)))))]]) H := hP
      have hD : va_D A (fl [[(sbh0, .inr (1, [.ref qu_3, .int (0 : Int32), .int u_3.2.2.1, .int (u_3.2.2.2 + (1 : Int32))]))], [(qu_3, .inl (G.2.1 2, u_3.1, .inl (upd u_3.2.1 u_3.2.2.2.toNatClampNeg (vp_nar .byte (x.toInt8.toInt32)))))]]) := hD
      refine lv_goto (tgt := 75) hx hb dJ5_append_3fe6f_42 (by decide) ?_
      refine lv_aload_n hx hb dJ5_append_3fe6f_75 rfl (lv_at hl 0 rfl) ?_
      exact w_retA (u := (qu_3, (u_3.1, (upd u_3.2.1 u_3.2.2.2.toNatClampNeg (vp_nar .byte (x.toInt8.toInt32))), u_3.2.2.1, (u_3.2.2.2 + (1 : Int32))))) hx hb hr hlk (Or.inl ⟨_, rfl⟩) (Or.inr ⟨_, rfl⟩) hS rfl hF.symm hP hD (Nat.le_of_ble_eq_true rfl) (Nat.le_of_ble_eq_true rfl) dJ5_append_3fe6f_76
theorem dJ4_append_cf468_0 : decode cJ4_append_cf468 0 = .ok (.aload_n 0, 1) := by decide +kernel
theorem dJ4_append_cf468_1 : decode cJ4_append_cf468 1 = .ok (.iload_n 1, 1) := by decide +kernel
theorem dJ4_append_cf468_2 : decode cJ4_append_cf468 2 = .ok (.invokespecial 50, 3) := by decide +kernel
theorem u_476 : Cond.methodLink RJ4 50 yJ5_append_3fe6f ∈ UW := uw 476 (by decide +kernel) rfl
theorem u_1598 : Cond.sameMethod RJ5 RJ5 "append" "(C)Ljava/lang/AbstractStringBuilder;" ∈ UW := uw 1598 (by decide +kernel) rfl
theorem u_477 : Cond.instanceMethod yJ5_append_3fe6f ∈ UW := uw 477 (by decide +kernel) rfl
theorem u_478 : Cond.code yJ5_append_3fe6f cJ5_append_3fe6f 2 (some (.object "java/lang/AbstractStringBuilder")) ∈ UW := uw 478 (by decide +kernel) rfl
theorem gSU_J4_50 : GoodIn UW (va_wsSU RJ4 50 yJ5_append_3fe6f (wsU yJ5_append_3fe6f cJ5_append_3fe6f 2 (some (.object "java/lang/AbstractStringBuilder")))) := gSU u_476 u_1598 u_159 u_477 u_29 u_478
theorem hdsu_J5_append_3fe6f : yJ5_append_3fe6f.name ≠ "<init>" ∧ (parseMethodDescriptor yJ5_append_3fe6f.desc).map (fun d => d.parameters.length) = some 1 := by decide +kernel
theorem dJ4_append_cf468_5 : decode cJ4_append_cf468 5 = .ok (.pop, 1) := by decide +kernel
theorem dJ4_append_cf468_6 : decode cJ4_append_cf468 6 = .ok (.aload_n 0, 1) := by decide +kernel
theorem dJ4_append_cf468_7 : decode cJ4_append_cf468 7 = .ok (.areturn, 1) := by decide +kernel
def f_J4_append_cf468 (sb : SbV) (x : Int32) : SbV := (let u_3 : SbV := (f_J5_append_3fe6f sb x); u_3)
def ok_J4_append_cf468 (sb : SbV) (x : Int32) : Prop := (ok_J5_append_3fe6f sb x ∧ True)
set_option maxHeartbeats 4000000 in
set_option maxRecDepth 100000 in
theorem c_J4_append_cf468 (l : Launch) (G : GG) (sbh0 : Nat) (sbh1 : Nat) (sz : Nat) (sb : SbV) (x : Int32) (hok : ok_J4_append_cf468 sb x) : wMet l yJ4_append_cf468 cJ4_append_cf468 2 (some (.object "java/lang/StringBuilder")) 6 1 200 G (fl [[(sbh0, .inr (1, [.ref sbh1, .int (0 : Int32), .int sb.2.2.1, .int sb.2.2.2]))], [(sbh1, .inl (G.2.1 2, sb.1, .inl sb.2.1))]]) [.ref sbh0, .int x] sz (fun u : Nat × SbV => some (.ref sbh0)) (fun u : Nat × SbV => u.2 = f_J4_append_cf468 sb x) (fun u : Nat × SbV => fl [[(sbh0, .inr (1, [.ref u.1, .int (0 : Int32), .int u.2.2.2.1, .int u.2.2.2.2]))], [(u.1, .inl (G.2.1 2, u.2.1, .inl u.2.2.1))]]) := by
  refine w_start (by decide +kernel) (Nat.le_of_ble_eq_true rfl) ?_
  intro p e s m below meth c A hx hb hr hml hts hown hlk hin hP hD hA hK hST ls hl
  have hS : va_S A s.heap s.heap [] := va_S.rf
  have hown : s.vm.findClass RJ4 = some m.cls := hown
  have hl : lv_has ls 2 [(0, .ref sbh0), (1, .int x)] := hl
  have hF : f_J4_append_cf468 sb x = (let u_3 : SbV := (f_J5_append_3fe6f sb x); u_3) := rfl
  have hok : (ok_J5_append_3fe6f sb x ∧ True) := hok
  refine lv_aload_n hx hb dJ4_append_cf468_0 rfl (lv_at hl 0 rfl) ?_
  refine lv_iload_n hx hb dJ4_append_cf468_1 rfl (lv_at hl 1 rfl) ?_
  have k_1 := hok.1
  have hok := hok.2
  refine w_SU (own := RJ4) (cs := [[(sbh0, .inr (1, [.ref sbh1, .int (0 : Int32), .int sb.2.2.1, .int sb.2.2.2]))], [(sbh1, .inl (G.2.1 2, sb.1, .inl sb.2.1))]]) (rs := []) (As := [.int x]) (rest := []) (c_J5_append_3fe6f l G sbh0 sbh1 s.heap.size sb x k_1) ⟨hx, hb, hml, hown, hts⟩ gSU_J4_50 hdsu_J5_append_3fe6f 1 _ rfl rfl hK hST hS hP hD hA [0, 1] [] rfl rfl rfl (va_recv hK hP (ci := 1) (q0 := 0) rfl rfl) ⟨Nat.le_of_ble_eq_true rfl, Nat.le_of_ble_eq_true rfl⟩ ⟨Nat.le_of_ble_eq_true rfl, Nat.le_of_ble_eq_true rfl⟩ rfl hl.1 rfl (Nat.le_of_ble_eq_true rfl) dJ4_append_cf468_2 (fun u_3 H locs huu hP hD hS => ?_)
  obtain ⟨qu_3, u_3⟩ := u_3
  have eu_3 : u_3 = (f_J5_append_3fe6f sb x) := huu
  have hP : va_P G.1 vwCl (fl [[(sbh0, .inr (1, [.ref qu_3, .int (0 : Int32), .int u_3.2.2.1, .int u_3.2.2.2]))], [(qu_3, .inl (G.2.1 2, u_3.1, .inl u_3.2.1))]]) H := hP
  have hD : va_D A (fl [[(sbh0, .inr (1, [.ref qu_3, .int (0 : Int32), .int u_3.2.2.1, .int u_3.2.2.2]))], [(qu_3, .inl (G.2.1 2, u_3.1, .inl u_3.2.1))]]) := hD
  refine W.eq (g2 := F0 m 5 ls [.ref sbh0]) rfl ?_
  have hF : f_J4_append_cf468 sb x = u_3 := by subst eu_3; exact hF
  refine lv_pop hx hb dJ4_append_cf468_5 rfl ?_
  refine lv_aload_n hx hb dJ4_append_cf468_6 rfl (lv_at hl 0 rfl) ?_
  exact w_retA (u := (qu_3, u_3)) hx hb hr hlk (Or.inl ⟨_, rfl⟩) (Or.inr ⟨_, rfl⟩) hS rfl hF.symm hP hD (Nat.le_of_ble_eq_true rfl) (Nat.le_of_ble_eq_true rfl) dJ4_append_cf468_7
theorem dJ5_setLength_d00df_0 : decode cJ5_setLength_d00df 0 = .ok (.iload_n 1, 1) := by decide +kernel
theorem dJ5_setLength_d00df_1 : decode cJ5_setLength_d00df 1 = .ok (.ifCond .ge 12, 3) := by decide +kernel
theorem dJ5_setLength_d00df_13 : decode cJ5_setLength_d00df 13 = .ok (.aload_n 0, 1) := by decide +kernel
theorem dJ5_setLength_d00df_14 : decode cJ5_setLength_d00df 14 = .ok (.iload_n 1, 1) := by decide +kernel
theorem dJ5_setLength_d00df_15 : decode cJ5_setLength_d00df 15 = .ok (.invokevirtual 100, 3) := by decide +kernel
theorem dJ5_setLength_d00df_18 : decode cJ5_setLength_d00df 18 = .ok (.aload_n 0, 1) := by decide +kernel
theorem dJ5_setLength_d00df_19 : decode cJ5_setLength_d00df 19 = .ok (.getfield 79, 3) := by decide +kernel
theorem dJ5_setLength_d00df_22 : decode cJ5_setLength_d00df 22 = .ok (.iload_n 1, 1) := by decide +kernel
theorem dJ5_setLength_d00df_23 : decode cJ5_setLength_d00df 23 = .ok (.if_icmp .ge 40, 3) := by decide +kernel
theorem dJ5_setLength_d00df_63 : decode cJ5_setLength_d00df 63 = .ok (.aload_n 0, 1) := by decide +kernel
theorem dJ5_setLength_d00df_64 : decode cJ5_setLength_d00df 64 = .ok (.getfield 79, 3) := by decide +kernel
theorem dJ5_setLength_d00df_67 : decode cJ5_setLength_d00df 67 = .ok (.iload_n 1, 1) := by decide +kernel
theorem dJ5_setLength_d00df_68 : decode cJ5_setLength_d00df 68 = .ok (.if_icmp .le 8, 3) := by decide +kernel
theorem dJ5_setLength_d00df_76 : decode cJ5_setLength_d00df 76 = .ok (.aload_n 0, 1) := by decide +kernel
theorem dJ5_setLength_d00df_77 : decode cJ5_setLength_d00df 77 = .ok (.iload_n 1, 1) := by decide +kernel
theorem dJ5_setLength_d00df_78 : decode cJ5_setLength_d00df 78 = .ok (.putfield 79, 3) := by decide +kernel
theorem dJ5_setLength_d00df_81 : decode cJ5_setLength_d00df 81 = .ok (.return_, 1) := by decide +kernel
theorem dJ5_setLength_d00df_71 : decode cJ5_setLength_d00df 71 = .ok (.aload_n 0, 1) := by decide +kernel
theorem dJ5_setLength_d00df_72 : decode cJ5_setLength_d00df 72 = .ok (.iconst 1, 1) := by decide +kernel
theorem dJ5_setLength_d00df_73 : decode cJ5_setLength_d00df 73 = .ok (.putfield 73, 3) := by decide +kernel
theorem u_187 : Cond.fieldLink RJ5 73 "java/lang/AbstractStringBuilder" "maybeLatin1" "Z" ∈ UW := uw 187 (by decide +kernel) rfl
def f_J5_setLength_d00df (sb : SbV) (x : Int32) : SbV := (if (0 : Int32) ≤ x then (let u_4 : SbV := (f_J5_ensureCapacityInternal_d00df sb x); (if x ≤ u_4.2.2.2 then (if u_4.2.2.2 ≤ x then (u_4.1, u_4.2.1, u_4.2.2.1, x) else (u_4.1, u_4.2.1, (1 : Int32), x)) else sb)) else sb)
def ok_J5_setLength_d00df (sb : SbV) (x : Int32) : Prop := (if (0 : Int32) ≤ x then (ok_J5_ensureCapacityInternal_d00df sb x ∧ (let u_4 : SbV := (f_J5_ensureCapacityInternal_d00df sb x); (if x ≤ u_4.2.2.2 then True else False))) else False)
set_option maxHeartbeats 4000000 in
set_option maxRecDepth 100000 in
theorem c_J5_setLength_d00df (l : Launch) (G : GG) (sbh0 : Nat) (sbh1 : Nat) (sz : Nat) (sb : SbV) (x : Int32) (hok : ok_J5_setLength_d00df sb x) : wMet l yJ5_setLength_d00df cJ5_setLength_d00df 2 none 5 1 200 G (fl [[(sbh0, .inr (1, [.ref sbh1, .int (0 : Int32), .int sb.2.2.1, .int sb.2.2.2]))], [(sbh1, .inl (G.2.1 2, sb.1, .inl sb.2.1))]]) [.ref sbh0, .int x] sz (fun u : Nat × SbV => none) (fun u : Nat × SbV => u.2 = f_J5_setLength_d00df sb x) (fun u : Nat × SbV => fl [[(sbh0, .inr (1, [.ref u.1, .int (0 : Int32), .int u.2.2.2.1, .int u.2.2.2.2]))], [(u.1, .inl (G.2.1 2, u.2.1, .inl u.2.2.1))]]) := by
  refine w_start (by decide +kernel) (Nat.le_of_ble_eq_true rfl) ?_
  intro p e s m below meth c A hx hb hr hml hts hown hlk hin hP hD hA hK hST ls hl
  have hS : va_S A s.heap s.heap [] := va_S.rf
  have hown : s.vm.findClass RJ5 = some m.cls := hown
  have hl : lv_has ls 2 [(0, .ref sbh0), (1, .int x)] := hl
  have hF : f_J5_setLength_d00df sb x = (if (0 : Int32) ≤ x then (let u_4 : SbV := (f_J5_ensureCapacityInternal_d00df sb x); (if x ≤ u_4.2.2.2 then (if u_4.2.2.2 ≤ x then (u_4.1, u_4.2.1, u_4.2.2.1, x) else (u_4.1, u_4.2.1, (1 : Int32), x)) else sb)) else sb) := rfl
  have hok : (if (0 : Int32) ≤ x then (ok_J5_ensureCapacityInternal_d00df sb x ∧ (let u_4 : SbV := (f_J5_ensureCapacityInternal_d00df sb x); (if x ≤ u_4.2.2.2 then True else False))) else False) := hok
  refine lv_iload_n hx hb dJ5_setLength_d00df_0 rfl (lv_at hl 1 rfl) ?_
  refine lv_if_ge (tgt := 13) hx hb dJ5_setLength_d00df_1 (by decide) (fun c_1 => ?_) (fun c_1 => ?_)
  · have hF := hF.trans (if_pos c_1)
    have hok := Eq.mp (if_pos c_1) hok
    refine lv_aload_n hx hb dJ5_setLength_d00df_13 rfl (lv_at hl 0 rfl) ?_
    refine lv_iload_n hx hb dJ5_setLength_d00df_14 rfl (lv_at hl 1 rfl) ?_
    have k_2 := hok.1
    have hok := hok.2
    refine w_P (own := RJ5) (cs := [[(sbh0, .inr (1, [.ref sbh1, .int (0 : Int32), .int sb.2.2.1, .int sb.2.2.2]))], [(sbh1, .inl (G.2.1 2, sb.1, .inl sb.2.1))]]) (rs := []) (As := [.int x]) (rest := []) (c_J5_ensureCapacityInternal_d00df l G sbh0 sbh1 s.heap.size sb x k_2) ⟨hx, hb, hml, hown, hts⟩ u_210 u_213 u_29 u_212 gP_J5_100 u_1592 rfl hds_J5_ensureCapacityInternal_d00df hK hST hS hP hD hA [0, 1] [] rfl rfl rfl (va_recv hK hP (ci := 1) (q0 := 0) rfl rfl) ⟨Nat.le_of_ble_eq_true rfl, Nat.le_of_ble_eq_true rfl⟩ ⟨Nat.le_of_ble_eq_true rfl, Nat.le_of_ble_eq_true rfl⟩ rfl hl.1 rfl (Nat.le_of_ble_eq_true rfl) dJ5_setLength_d00df_15 (fun u_4 H locs huu hP hD hS => ?_)
    obtain ⟨qu_4, u_4⟩ := u_4
    have eu_4 : u_4 = (f_J5_ensureCapacityInternal_d00df sb x) := huu
    have hP : va_P G.1 vwCl (fl [[(sbh0, .inr (1, [.ref qu_4, .int (0 : Int32), .int u_4.2.2.1, .int u_4.2.2.2]))], [(qu_4, .inl (G.2.1 2, u_4.1, .inl u_4.2.1))]]) H := hP
    have hD : va_D A (fl [[(sbh0, .inr (1, [.ref qu_4, .int (0 : Int32), .int u_4.2.2.1, .int u_4.2.2.2]))], [(qu_4, .inl (G.2.1 2, u_4.1, .inl u_4.2.1))]]) := hD
    refine W.eq (g2 := F0 m 18 ls []) rfl ?_
    have hF : f_J5_setLength_d00df sb x = (if x ≤ u_4.2.2.2 then (if u_4.2.2.2 ≤ x then (u_4.1, u_4.2.1, u_4.2.2.1, x) else (u_4.1, u_4.2.1, (1 : Int32), x)) else sb) := by subst eu_4; exact hF
    have hok : (if x ≤ u_4.2.2.2 then True else False) := by subst eu_4; exact hok
    refine lv_aload_n hx hb dJ5_setLength_d00df_18 rfl (lv_at hl 0 rfl) ?_
    refine va_get (D := G.1) (ci := 1) (v := .int u_4.2.2.2) (C := RJ4) (T := TJ4) (N := 4) hx hb hts uws_J4 hown hK hP 0 rfl rfl 3 (by decide) (hts _ u_189) (fun _ h9 => h9) rfl dJ5_setLength_d00df_19 ?_
    refine lv_iload_n hx hb dJ5_setLength_d00df_22 rfl (lv_at hl 1 rfl) ?_
    refine lv_icmp_ge (tgt := 63) hx hb dJ5_setLength_d00df_23 (by decide) (fun c_5 => ?_) (fun c_5 => ?_)
    · have hF := hF.trans (if_pos c_5)
      have hok := Eq.mp (if_pos c_5) hok
      refine lv_aload_n hx hb dJ5_setLength_d00df_63 rfl (lv_at hl 0 rfl) ?_
      refine va_get (D := G.1) (ci := 1) (v := .int u_4.2.2.2) (C := RJ4) (T := TJ4) (N := 4) hx hb hts uws_J4 hown hK hP 0 rfl rfl 3 (by decide) (hts _ u_189) (fun _ h9 => h9) rfl dJ5_setLength_d00df_64 ?_
      refine lv_iload_n hx hb dJ5_setLength_d00df_67 rfl (lv_at hl 1 rfl) ?_
      refine lv_icmp_le (tgt := 76) hx hb dJ5_setLength_d00df_68 (by decide) (fun c_6 => ?_) (fun c_6 => ?_)
      · have hF := hF.trans (if_pos c_6)
        refine lv_aload_n hx hb dJ5_setLength_d00df_76 rfl (lv_at hl 0 rfl) ?_
        refine lv_iload_n hx hb dJ5_setLength_d00df_77 rfl (lv_at hl 1 rfl) ?_
        refine va_put (D := G.1) (ci := 1) (v := .int x) (ty := .int) (C := RJ4) (T := TJ4) (N := 4) hx hb hts uws_J4 tyJ4 tyJ4_ok nmJ4 hown hK hP hD hS 0 rfl rfl 3 (by decide) (hts _ u_189) (fun _ h9 => h9) rfl (by decide +kernel) rfl rfl (Nat.le_of_ble_eq_true rfl) dJ5_setLength_d00df_78 (fun H locs hP hD hS => ?_)
        have hP : va_P G.1 vwCl (fl [[(sbh0, .inr (1, [.ref qu_4, .int (0 : Int32), .int u_4.2.2.1, .int x]))], [(qu_4, .inl (G.2.1 2, u_4.1, .inl u_4.2.1))]]) H := hP
        have hD : va_D A (fl [[(sbh0, .inr (1, [.ref qu_4, .int (0 : Int32), .int u_4.2.2.1, .int x]))], [(qu_4, .inl (G.2.1 2, u_4.1, .inl u_4.2.1))]]) := hD
        exact w_retV (u := (qu_4, (u_4.1, u_4.2.1, u_4.2.2.1, x))) hx hb hr hlk hS rfl hF.symm hP hD (Nat.le_of_ble_eq_true rfl) (Nat.le_of_ble_eq_true rfl) dJ5_setLength_d00df_81
      · have hF := hF.trans (if_neg c_6)
        refine lv_aload_n hx hb dJ5_setLength_d00df_71 rfl (lv_at hl 0 rfl) ?_
        refine lv_iconst (v := (1 : Int32)) hx hb dJ5_setLength_d00df_72 (by decide) ?_
        refine va_put (D := G.1) (ci := 1) (v := .int (1 : Int32)) (ty := .boolean) (C := RJ4) (T := TJ4) (N := 4) hx hb hts uws_J4 tyJ4 tyJ4_ok nmJ4 hown hK hP hD hS 0 rfl rfl 2 (by decide) (hts _ u_187) (fun _ h9 => h9) rfl (by decide +kernel) rfl rfl (Nat.le_of_ble_eq_true rfl) dJ5_setLength_d00df_73 (fun H locs hP hD hS => ?_)
        have hP : va_P G.1 vwCl (fl [[(sbh0, .inr (1, [.ref qu_4, .int (0 : Int32), .int (1 : Int32), .int u_4.2.2.2]))], [(qu_4, .inl (G.2.1 2, u_4.1, .inl u_4.2.1))]]) H := hP
        have hD : va_D A (fl [[(sbh0, .inr (1, [.ref qu_4, .int (0 : Int32), .int (1 : Int32), .int u_4.2.2.2]))], [(qu_4, .inl (G.2.1 2, u_4.1, .inl u_4.2.1))]]) := hD
        refine lv_aload_n hx hb dJ5_setLength_d00df_76 rfl (lv_at hl 0 rfl) ?_
        refine lv_iload_n hx hb dJ5_setLength_d00df_77 rfl (lv_at hl 1 rfl) ?_
        refine va_put (D := G.1) (ci := 1) (v := .int x) (ty := .int) (C := RJ4) (T := TJ4) (N := 4) hx hb hts uws_J4 tyJ4 tyJ4_ok nmJ4 hown hK hP hD hS 0 rfl rfl 3 (by decide) (hts _ u_189) (fun _ h9 => h9) rfl (by decide +kernel) rfl rfl (Nat.le_of_ble_eq_true rfl) dJ5_setLength_d00df_78 (fun H locs hP hD hS => ?_)
        have hP : va_P G.1 vwCl (fl [[(sbh0, .inr (1, [.ref qu_4, .int (0 : Int32), .int (1 : Int32), .int x]))], [(qu_4, .inl (G.2.1 2, u_4.1, .inl u_4.2.1))]]) H := hP
        have hD : va_D A (fl [[(sbh0, .inr (1, [.ref qu_4, .int (0 : Int32), .int (1 : Int32), .int x]))], [(qu_4, .inl (G.2.1 2, u_4.1, .inl u_4.2.1))]]) := hD
        exact w_retV (u := (qu_4, (u_4.1, u_4.2.1, (1 : Int32), x))) hx hb hr hlk hS rfl hF.symm hP hD (Nat.le_of_ble_eq_true rfl) (Nat.le_of_ble_eq_true rfl) dJ5_setLength_d00df_81
    · have hF := hF.trans (if_neg c_5)
      have hok := Eq.mp (if_neg c_5) hok
      exact hok.elim
  · have hF := hF.trans (if_neg c_1)
    have hok := Eq.mp (if_neg c_1) hok
    exact hok.elim
theorem dJ4_setLength_d00df_0 : decode cJ4_setLength_d00df 0 = .ok (.aload_n 0, 1) := by decide +kernel
theorem dJ4_setLength_d00df_1 : decode cJ4_setLength_d00df 1 = .ok (.iload_n 1, 1) := by decide +kernel
theorem dJ4_setLength_d00df_2 : decode cJ4_setLength_d00df 2 = .ok (.invokespecial 333, 3) := by decide +kernel
theorem u_158 : Cond.methodLink RJ4 333 yJ5_setLength_d00df ∈ UW := uw 158 (by decide +kernel) rfl
theorem u_1589 : Cond.sameMethod RJ5 RJ5 "setLength" "(I)V" ∈ UW := uw 1589 (by decide +kernel) rfl
theorem u_160 : Cond.instanceMethod yJ5_setLength_d00df ∈ UW := uw 160 (by decide +kernel) rfl
theorem u_161 : Cond.code yJ5_setLength_d00df cJ5_setLength_d00df 2 none ∈ UW := uw 161 (by decide +kernel) rfl
theorem gSU_J4_333 : GoodIn UW (va_wsSU RJ4 333 yJ5_setLength_d00df (wsU yJ5_setLength_d00df cJ5_setLength_d00df 2 none)) := gSU u_158 u_1589 u_159 u_160 u_29 u_161
theorem hdsu_J5_setLength_d00df : yJ5_setLength_d00df.name ≠ "<init>" ∧ (parseMethodDescriptor yJ5_setLength_d00df.desc).map (fun d => d.parameters.length) = some 1 := by decide +kernel
theorem dJ4_setLength_d00df_5 : decode cJ4_setLength_d00df 5 = .ok (.return_, 1) := by decide +kernel
def f_J4_setLength_d00df (sb : SbV) (x : Int32) : SbV := (let u_3 : SbV := (f_J5_setLength_d00df sb x); u_3)
def ok_J4_setLength_d00df (sb : SbV) (x : Int32) : Prop := (ok_J5_setLength_d00df sb x ∧ True)
set_option maxHeartbeats 4000000 in
set_option maxRecDepth 100000 in
theorem c_J4_setLength_d00df (l : Launch) (G : GG) (sbh0 : Nat) (sbh1 : Nat) (sz : Nat) (sb : SbV) (x : Int32) (hok : ok_J4_setLength_d00df sb x) : wMet l yJ4_setLength_d00df cJ4_setLength_d00df 2 none 6 1 200 G (fl [[(sbh0, .inr (1, [.ref sbh1, .int (0 : Int32), .int sb.2.2.1, .int sb.2.2.2]))], [(sbh1, .inl (G.2.1 2, sb.1, .inl sb.2.1))]]) [.ref sbh0, .int x] sz (fun u : Nat × SbV => none) (fun u : Nat × SbV => u.2 = f_J4_setLength_d00df sb x) (fun u : Nat × SbV => fl [[(sbh0, .inr (1, [.ref u.1, .int (0 : Int32), .int u.2.2.2.1, .int u.2.2.2.2]))], [(u.1, .inl (G.2.1 2, u.2.1, .inl u.2.2.1))]]) := by
  refine w_start (by decide +kernel) (Nat.le_of_ble_eq_true rfl) ?_
  intro p e s m below meth c A hx hb hr hml hts hown hlk hin hP hD hA hK hST ls hl
  have hS : va_S A s.heap s.heap [] := va_S.rf
  have hown : s.vm.findClass RJ4 = some m.cls := hown
  have hl : lv_has ls 2 [(0, .ref sbh0), (1, .int x)] := hl
  have hF : f_J4_setLength_d00df sb x = (let u_3 : SbV := (f_J5_setLength_d00df sb x); u_3) := rfl
  have hok : (ok_J5_setLength_d00df sb x ∧ True) := hok
  refine lv_aload_n hx hb dJ4_setLength_d00df_0 rfl (lv_at hl 0 rfl) ?_
  refine lv_iload_n hx hb dJ4_setLength_d00df_1 rfl (lv_at hl 1 rfl) ?_
  have k_1 := hok.1
  have hok := hok.2
  refine w_SU (own := RJ4) (cs := [[(sbh0, .inr (1, [.ref sbh1, .int (0 : Int32), .int sb.2.2.1, .int sb.2.2.2]))], [(sbh1, .inl (G.2.1 2, sb.1, .inl sb.2.1))]]) (rs := []) (As := [.int x]) (rest := []) (c_J5_setLength_d00df l G sbh0 sbh1 s.heap.size sb x k_1) ⟨hx, hb, hml, hown, hts⟩ gSU_J4_333 hdsu_J5_setLength_d00df 1 _ rfl rfl hK hST hS hP hD hA [0, 1] [] rfl rfl rfl (va_recv hK hP (ci := 1) (q0 := 0) rfl rfl) ⟨Nat.le_of_ble_eq_true rfl, Nat.le_of_ble_eq_true rfl⟩ ⟨Nat.le_of_ble_eq_true rfl, Nat.le_of_ble_eq_true rfl⟩ rfl hl.1 rfl (Nat.le_of_ble_eq_true rfl) dJ4_setLength_d00df_2 (fun u_3 H locs huu hP hD hS => ?_)
  obtain ⟨qu_3, u_3⟩ := u_3
  have eu_3 : u_3 = (f_J5_setLength_d00df sb x) := huu
  have hP : va_P G.1 vwCl (fl [[(sbh0, .inr (1, [.ref qu_3, .int (0 : Int32), .int u_3.2.2.1, .int u_3.2.2.2]))], [(qu_3, .inl (G.2.1 2, u_3.1, .inl u_3.2.1))]]) H := hP
  have hD : va_D A (fl [[(sbh0, .inr (1, [.ref qu_3, .int (0 : Int32), .int u_3.2.2.1, .int u_3.2.2.2]))], [(qu_3, .inl (G.2.1 2, u_3.1, .inl u_3.2.1))]]) := hD
  refine W.eq (g2 := F0 m 5 ls []) rfl ?_
  have hF : f_J4_setLength_d00df sb x = u_3 := by subst eu_3; exact hF
  exact w_retV (u := (qu_3, u_3)) hx hb hr hlk hS rfl hF.symm hP hD (Nat.le_of_ble_eq_true rfl) (Nat.le_of_ble_eq_true rfl) dJ4_setLength_d00df_5
theorem dJ0_getBytes_840e7_0 : decode cJ0_getBytes_840e7 0 = .ok (.aload_n 0, 1) := by decide +kernel
theorem dJ0_getBytes_840e7_1 : decode cJ0_getBytes_840e7 1 = .ok (.invokevirtual 335, 3) := by decide +kernel
theorem dJ0_getBytes_840e7_4 : decode cJ0_getBytes_840e7 4 = .ok (.iload_n 3, 1) := by decide +kernel
theorem dJ0_getBytes_840e7_5 : decode cJ0_getBytes_840e7 5 = .ok (.if_icmp .ne 23, 3) := by decide +kernel
theorem dJ0_getBytes_840e7_8 : decode cJ0_getBytes_840e7 8 = .ok (.aload_n 0, 1) := by decide +kernel
theorem dJ0_getBytes_840e7_9 : decode cJ0_getBytes_840e7 9 = .ok (.getfield 9, 3) := by decide +kernel
theorem dJ0_getBytes_840e7_12 : decode cJ0_getBytes_840e7 12 = .ok (.iconst 0, 1) := by decide +kernel
theorem dJ0_getBytes_840e7_13 : decode cJ0_getBytes_840e7 13 = .ok (.aload_n 1, 1) := by decide +kernel
theorem dJ0_getBytes_840e7_14 : decode cJ0_getBytes_840e7 14 = .ok (.iload_n 2, 1) := by decide +kernel
theorem dJ0_getBytes_840e7_15 : decode cJ0_getBytes_840e7 15 = .ok (.iload_n 3, 1) := by decide +kernel
theorem dJ0_getBytes_840e7_16 : decode cJ0_getBytes_840e7 16 = .ok (.ishl, 1) := by decide +kernel
theorem dJ0_getBytes_840e7_17 : decode cJ0_getBytes_840e7 17 = .ok (.aload_n 0, 1) := by decide +kernel
theorem dJ0_getBytes_840e7_18 : decode cJ0_getBytes_840e7 18 = .ok (.getfield 9, 3) := by decide +kernel
theorem dJ0_getBytes_840e7_21 : decode cJ0_getBytes_840e7 21 = .ok (.arraylength, 1) := by decide +kernel
theorem dJ0_getBytes_840e7_22 : decode cJ0_getBytes_840e7 22 = .ok (.invokestatic 212, 3) := by decide +kernel
theorem u_317 : Cond.methodLink RJ0 212 ⟨"java/lang/System", "arraycopy", "(Ljava/lang/Object;ILjava/lang/Object;II)V"⟩ ∈ UW := uw 317 (by decide +kernel) rfl
theorem dJ0_getBytes_840e7_25 : decode cJ0_getBytes_840e7 25 = .ok (.goto 18, 3) := by decide +kernel
theorem dJ0_getBytes_840e7_43 : decode cJ0_getBytes_840e7 43 = .ok (.return_, 1) := by decide +kernel
def f_J0_getBytes_840e7 (tj : Nat) (ryn : Nat) (ry : Nat → Int32) (x : Int32) (y : Int32) : (Nat → Int32) := (if (0 : Int32) = y then (va_cpy (fun i => nI ((strL.getD tj []).getD i 0)) ry (0 : Int32).toNatClampNeg (x <<< (y &&& 31)).toNatClampNeg (nI (strL.getD tj []).length).toNatClampNeg) else ry)
def ok_J0_getBytes_840e7 (tj : Nat) (ryn : Nat) (ry : Nat → Int32) (x : Int32) (y : Int32) : Prop := (if (0 : Int32) = y then (¬ (x <<< (y &&& 31)) < 0 ∧ (¬ (nI (strL.getD tj []).length) < 0 ∧ ((0 : Int32).toNatClampNeg + (nI (strL.getD tj []).length).toNatClampNeg ≤ (strL.getD tj []).length ∧ ((x <<< (y &&& 31)).toNatClampNeg + (nI (strL.getD tj []).length).toNatClampNeg ≤ ryn ∧ ((∀ i, i < (nI (strL.getD tj []).length).toNatClampNeg → fits .byte (.int (nI ((strL.getD tj []).getD ((0 : Int32).toNatClampNeg + i) 0))) = true) ∧ True))))) else False)
set_option maxHeartbeats 4000000 in
set_option maxRecDepth 100000 in
theorem c_J0_getBytes_840e7 (l : Launch) (G : GG) (ryh : Nat) (sz : Nat) (tj : Nat) (ryn : Nat) (ry : Nat → Int32) (x : Int32) (y : Int32) (hok : ok_J0_getBytes_840e7 tj ryn ry x y) (hyp_tj : sOK tj) (hyp_ryn : ryn < 2147483648) : wMet l yJ0_getBytes_840e7 cJ0_getBytes_840e7 4 none 3 0 0 G (fl [[(ryh, .inl (G.2.1 2, ryn, .inl ry))]]) [.ref (G.2.2.1 (10 + tj)), .ref ryh, .int x, .int y] sz (fun u : (Nat → Int32) => none) (fun u : (Nat → Int32) => u = f_J0_getBytes_840e7 tj ryn ry x y) (fun u : (Nat → Int32) => fl [[(ryh, .inl (G.2.1 2, ryn, .inl u))]]) := by
  refine w_start (by decide +kernel) (Nat.le_of_ble_eq_true rfl) ?_
  intro p e s m below meth c A hx hb hr hml hts hown hlk hin hP hD hA hK hST ls hl
  have hS : va_S A s.heap s.heap [] := va_S.rf
  have hown : s.vm.findClass RJ0 = some m.cls := hown
  have hl : lv_has ls 4 [(0, .ref (G.2.2.1 (10 + tj))), (1, .ref ryh), (2, .int x), (3, .int y)] := hl
  have hF : f_J0_getBytes_840e7 tj ryn ry x y = (if (0 : Int32) = y then (va_cpy (fun i => nI ((strL.getD tj []).getD i 0)) ry (0 : Int32).toNatClampNeg (x <<< (y &&& 31)).toNatClampNeg (nI (strL.getD tj []).length).toNatClampNeg) else ry) := rfl
  have hok : (if (0 : Int32) = y then (¬ (x <<< (y &&& 31)) < 0 ∧ (¬ (nI (strL.getD tj []).length) < 0 ∧ ((0 : Int32).toNatClampNeg + (nI (strL.getD tj []).length).toNatClampNeg ≤ (strL.getD tj []).length ∧ ((x <<< (y &&& 31)).toNatClampNeg + (nI (strL.getD tj []).length).toNatClampNeg ≤ ryn ∧ ((∀ i, i < (nI (strL.getD tj []).length).toNatClampNeg → fits .byte (.int (nI ((strL.getD tj []).getD ((0 : Int32).toNatClampNeg + i) 0))) = true) ∧ True))))) else False) := hok
  refine lv_aload_n hx hb dJ0_getBytes_840e7_0 rfl (lv_at hl 0 rfl) ?_
  refine r_Vs (own := RJ0) (v := (some (.int (0 : Int32)))) (st1 := [.int (0 : Int32)]) (As := []) (rest := []) (c_J0_coder_7d493 l G tj hyp_tj) ⟨hx, hb, hml, hown, hts⟩ g_J0_335 hdv_J0_coder_7d493 hK hST hS hP [] rfl (recv_str hST hS hyp_tj) ⟨Nat.le_of_ble_eq_true rfl, Nat.le_of_ble_eq_true rfl⟩ ⟨Nat.le_of_ble_eq_true rfl, Nat.le_of_ble_eq_true rfl⟩ rfl hl.1 rfl (Nat.le_of_ble_eq_true rfl) dJ0_getBytes_840e7_1 rfl (fun b_1 => ?_)
  refine lv_iload_n hx hb dJ0_getBytes_840e7_4 rfl (lv_at hl 3 rfl) ?_
  refine lv_icmp_ne (tgt := 28) hx hb dJ0_getBytes_840e7_5 (by decide) (fun c_2 => ?_) (fun c_2 => ?_)
  · have hF := hF.trans (if_neg c_2)
    have hok := Eq.mp (if_neg c_2) hok
    exact hok.elim
  · have hF := hF.trans (if_pos c_2)
    have hok := Eq.mp (if_pos c_2) hok
    refine lv_aload_n hx hb dJ0_getBytes_840e7_8 rfl (lv_at hl 0 rfl) ?_
    refine vk_getf (v := .ref (G.2.2.2 tj)) hx hb (hST.strF hyp_tj).2.2.1 hS hown (hts _ u_414) (fun _ h9 => h9) dJ0_getBytes_840e7_9 ?_
    refine lv_iconst (v := (0 : Int32)) hx hb dJ0_getBytes_840e7_12 (by decide) ?_
    refine lv_aload_n hx hb dJ0_getBytes_840e7_13 rfl (lv_at hl 1 rfl) ?_
    refine lv_iload_n hx hb dJ0_getBytes_840e7_14 rfl (lv_at hl 2 rfl) ?_
    refine lv_iload_n hx hb dJ0_getBytes_840e7_15 rfl (lv_at hl 3 rfl) ?_
    refine lv_ishl hx hb dJ0_getBytes_840e7_16 ?_
    refine lv_aload_n hx hb dJ0_getBytes_840e7_17 rfl (lv_at hl 0 rfl) ?_
    refine vk_getf (v := .ref (G.2.2.2 tj)) hx hb (hST.strF hyp_tj).2.2.1 hS hown (hts _ u_414) (fun _ h9 => h9) dJ0_getBytes_840e7_18 ?_
    refine va_tlen (v := (nI (strL.getD tj []).length)) hx hb (hST.strF hyp_tj).2.2.2 hS rfl dJ0_getBytes_840e7_21 ?_
    have h_3 := hok.1
    have hok := hok.2
    have h_4 := hok.1
    have hok := hok.2
    have h_5 := hok.1
    have hok := hok.2
    have h_6 := hok.1
    have hok := hok.2
    have h_7 := hok.1
    have hok := hok.2
    refine va_copyT hx hb (hml.trans hl.1.symm) hown (hts _ u_317) (hts _ u_244) (hts _ u_243) (hts _ u_51) hK hP hD hS (hST.strF hyp_tj).2.2.2 0 2 rfl rfl (by decide) h_3 h_4 h_5 h_6 h_7 (Nat.le_of_ble_eq_true rfl) (Nat.le_of_ble_eq_true rfl) dJ0_getBytes_840e7_22 (fun H locs hP hD hS => ?_)
    have hP : va_P G.1 vwCl (fl [[(ryh, .inl (G.2.1 2, ryn, .inl (va_cpy (fun i => nI ((strL.getD tj []).getD i 0)) ry (0 : Int32).toNatClampNeg (x <<< (y &&& 31)).toNatClampNeg (nI (strL.getD tj []).length).toNatClampNeg)))]]) H := hP
    have hD : va_D A (fl [[(ryh, .inl (G.2.1 2, ryn, .inl (va_cpy (fun i => nI ((strL.getD tj []).getD i 0)) ry (0 : Int32).toNatClampNeg (x <<< (y &&& 31)).toNatClampNeg (nI (strL.getD tj []).length).toNatClampNeg)))]]) := hD
    refine W.eq (g2 := F0 m 25 ls []) rfl ?_
    refine lv_goto (tgt := 43) hx hb dJ0_getBytes_840e7_25 (by decide) ?_
    exact w_retV (u := (va_cpy (fun i => nI ((strL.getD tj []).getD i 0)) ry (0 : Int32).toNatClampNeg (x <<< (y &&& 31)).toNatClampNeg (nI (strL.getD tj []).length).toNatClampNeg)) hx hb hr hlk hS rfl hF.symm hP hD (Nat.le_of_ble_eq_true rfl) (Nat.le_of_ble_eq_true rfl) dJ0_getBytes_840e7_43
theorem dJ5_inflateIfNeededFor_a7421_0 : decode cJ5_inflateIfNeededFor_a7421 0 = .ok (.getstatic 18, 3) := by decide +kernel
theorem dJ5_inflateIfNeededFor_a7421_3 : decode cJ5_inflateIfNeededFor_a7421 3 = .ok (.ifCond .eq 18, 3) := by decide +kernel
theorem dJ5_inflateIfNeededFor_a7421_6 : decode cJ5_inflateIfNeededFor_a7421 6 = .ok (.aload_n 0, 1) := by decide +kernel
theorem dJ5_inflateIfNeededFor_a7421_7 : decode cJ5_inflateIfNeededFor_a7421 7 = .ok (.getfield 22, 3) := by decide +kernel
theorem dJ5_inflateIfNeededFor_a7421_10 : decode cJ5_inflateIfNeededFor_a7421 10 = .ok (.aload_n 1, 1) := by decide +kernel
theorem dJ5_inflateIfNeededFor_a7421_11 : decode cJ5_inflateIfNeededFor_a7421 11 = .ok (.invokevirtual 40, 3) := by decide +kernel
theorem u_293 : Cond.methodLink RJ5 40 yJ0_coder_7d493 ∈ UW := uw 293 (by decide +kernel) rfl
theorem g_J5_40 : GoodIn UW (wsV RJ5 40 RJ0 yJ0_coder_7d493 (wsU yJ0_coder_7d493 cJ0_coder_7d493 1 (some .byte))) := gV u_293 u_281 u_282 u_31 u_283
theorem dJ5_inflateIfNeededFor_a7421_14 : decode cJ5_inflateIfNeededFor_a7421 14 = .ok (.if_icmp .eq 7, 3) := by decide +kernel
theorem dJ5_inflateIfNeededFor_a7421_21 : decode cJ5_inflateIfNeededFor_a7421 21 = .ok (.return_, 1) := by decide +kernel
def f_J5_inflateIfNeededFor_a7421 (sb : SbV) (tj : Nat) : Unit := ()
set_option maxHeartbeats 4000000 in
set_option maxRecDepth 100000 in
theorem c_J5_inflateIfNeededFor_a7421 (l : Launch) (G : GG) (sbh0 : Nat) (sbh1 : Nat) (sb : SbV) (tj : Nat) (hyp_tj : sOK tj) : rMet l yJ5_inflateIfNeededFor_a7421 cJ5_inflateIfNeededFor_a7421 2 none 2 G (fl [[(sbh0, .inr (1, [.ref sbh1, .int (0 : Int32), .int sb.2.2.1, .int sb.2.2.2]))], [(sbh1, .inl (G.2.1 2, sb.1, .inl sb.2.1))]]) [.ref sbh0, .ref (G.2.2.1 (10 + tj))] (none) (True) := by
  refine r_start (by decide +kernel) (Nat.le_of_ble_eq_true rfl) ?_
  intro p e s m below meth c hx hb hr hml hts hown hlk hP hK hST ls hl
  have hS : va_S (fun _ => False) s.heap s.heap [] := va_S.rf
  have hown : s.vm.findClass RJ5 = some m.cls := hown
  have hl : lv_has ls 2 [(0, .ref sbh0), (1, .ref (G.2.2.1 (10 + tj)))] := hl
  have hF : f_J5_inflateIfNeededFor_a7421 sb tj = () := rfl
  refine va_gets (v := .int (1 : Int32)) hx hb hST.compact hS hown (hts _ u_176) (fun _ h9 => h9) dJ5_inflateIfNeededFor_a7421_0 ?_
  refine lv_if_eq (tgt := 21) hx hb dJ5_inflateIfNeededFor_a7421_3 (by decide) (fun c_1 => ?_) (fun c_1 => ?_)
  · exact absurd c_1 (by decide)
  · refine lv_aload_n hx hb dJ5_inflateIfNeededFor_a7421_6 rfl (lv_at hl 0 rfl) ?_
    refine va_get (D := G.1) (ci := 1) (v := .int (0 : Int32)) (C := RJ4) (T := TJ4) (N := 4) hx hb hts uws_J4 hown hK hP 0 rfl rfl 1 (by decide) (hts _ u_186) (fun _ h9 => h9) rfl dJ5_inflateIfNeededFor_a7421_7 ?_
    refine lv_aload_n hx hb dJ5_inflateIfNeededFor_a7421_10 rfl (lv_at hl 1 rfl) ?_
    refine r_Vs (own := RJ5) (v := (some (.int (0 : Int32)))) (st1 := [.int (0 : Int32), .int (0 : Int32)]) (As := []) (rest := [.int (0 : Int32)]) (c_J0_coder_7d493 l G tj hyp_tj) ⟨hx, hb, hml, hown, hts⟩ g_J5_40 hdv_J0_coder_7d493 hK hST hS hP [] rfl (recv_str hST hS hyp_tj) ⟨Nat.le_of_ble_eq_true rfl, Nat.le_of_ble_eq_true rfl⟩ ⟨Nat.le_of_ble_eq_true rfl, Nat.le_of_ble_eq_true rfl⟩ rfl hl.1 rfl (Nat.le_of_ble_eq_true rfl) dJ5_inflateIfNeededFor_a7421_11 rfl (fun b_2 => ?_)
    refine lv_icmp_eq (tgt := 21) hx hb dJ5_inflateIfNeededFor_a7421_14 (by decide) (fun c_3 => ?_) (fun c_3 => ?_)
    · exact r_retV hx hb hr hlk trivial dJ5_inflateIfNeededFor_a7421_21
    · exact absurd c_3 (by decide)
theorem dJ5_putStringAt_47b60_0 : decode cJ5_putStringAt_47b60 0 = .ok (.aload_n 0, 1) := by decide +kernel
theorem dJ5_putStringAt_47b60_1 : decode cJ5_putStringAt_47b60 1 = .ok (.aload_n 2, 1) := by decide +kernel
theorem dJ5_putStringAt_47b60_2 : decode cJ5_putStringAt_47b60 2 = .ok (.invokevirtual 397, 3) := by decide +kernel
theorem gP_J5_397 : Cond.privateMethod yJ5_inflateIfNeededFor_a7421 ∈ CW := cwm 290 (by decide +kernel) rfl
theorem u_289 : Cond.methodLink RJ5 397 yJ5_inflateIfNeededFor_a7421 ∈ UW := uw 289 (by decide +kernel) rfl
theorem u_292 : Cond.code yJ5_inflateIfNeededFor_a7421 cJ5_inflateIfNeededFor_a7421 2 none ∈ UW := uw 292 (by decide +kernel) rfl
theorem u_291 : Cond.instanceMethod yJ5_inflateIfNeededFor_a7421 ∈ UW := uw 291 (by decide +kernel) rfl
theorem u_1595 : Cond.sameMethod RJ5 RJ5 "inflateIfNeededFor" "(Ljava/lang/String;)V" ∈ UW := uw 1595 (by decide +kernel) rfl
theorem hds_J5_inflateIfNeededFor_a7421 : yJ5_inflateIfNeededFor_a7421.cls ≠ "java/lang/invoke/MethodHandle" ∧ yJ5_inflateIfNeededFor_a7421.cls ≠ "java/lang/invoke/VarHandle" ∧ (parseMethodDescriptor yJ5_inflateIfNeededFor_a7421.desc).map (fun d => d.parameters.length) = some 1 := by decide +kernel
theorem dJ5_putStringAt_47b60_5 : decode cJ5_putStringAt_47b60 5 = .ok (.aload_n 2, 1) := by decide +kernel
theorem dJ5_putStringAt_47b60_6 : decode cJ5_putStringAt_47b60 6 = .ok (.aload_n 0, 1) := by decide +kernel
theorem dJ5_putStringAt_47b60_7 : decode cJ5_putStringAt_47b60 7 = .ok (.getfield 15, 3) := by decide +kernel
theorem dJ5_putStringAt_47b60_10 : decode cJ5_putStringAt_47b60 10 = .ok (.iload_n 1, 1) := by decide +kernel
theorem dJ5_putStringAt_47b60_11 : decode cJ5_putStringAt_47b60 11 = .ok (.aload_n 0, 1) := by decide +kernel
theorem dJ5_putStringAt_47b60_12 : decode cJ5_putStringAt_47b60 12 = .ok (.getfield 22, 3) := by decide +kernel
theorem dJ5_putStringAt_47b60_15 : decode cJ5_putStringAt_47b60 15 = .ok (.invokevirtual 399, 3) := by decide +kernel
theorem u_313 : Cond.methodLink RJ5 399 yJ0_getBytes_840e7 ∈ UW := uw 313 (by decide +kernel) rfl
theorem u_314 : Cond.instanceMethod yJ0_getBytes_840e7 ∈ UW := uw 314 (by decide +kernel) rfl
theorem u_315 : Cond.selects RJ0 yJ0_getBytes_840e7 yJ0_getBytes_840e7 ∈ UW := uw 315 (by decide +kernel) rfl
theorem u_316 : Cond.code yJ0_getBytes_840e7 cJ0_getBytes_840e7 4 none ∈ UW := uw 316 (by decide +kernel) rfl
theorem g_J5_399 : GoodIn UW (wsV RJ5 399 RJ0 yJ0_getBytes_840e7 (wsU yJ0_getBytes_840e7 cJ0_getBytes_840e7 4 none)) := gV u_313 u_314 u_315 u_31 u_316
theorem hdv_J0_getBytes_840e7 : yJ0_getBytes_840e7.cls = RJ0 ∧ yJ0_getBytes_840e7.cls ≠ "java/lang/invoke/MethodHandle" ∧ yJ0_getBytes_840e7.cls ≠ "java/lang/invoke/VarHandle" ∧ (parseMethodDescriptor yJ0_getBytes_840e7.desc).map (fun d => d.parameters.length) = some 3 := by decide +kernel
theorem dJ5_putStringAt_47b60_18 : decode cJ5_putStringAt_47b60 18 = .ok (.return_, 1) := by decide +kernel
def f_J5_putStringAt_47b60 (sb : SbV) (x : Int32) (tj : Nat) : SbV := (let u_5 : (Nat → Int32) := (f_J0_getBytes_840e7 tj sb.1 sb.2.1 x (0 : Int32)); (sb.1, u_5, sb.2.2.1, sb.2.2.2))
def ok_J5_putStringAt_47b60 (sb : SbV) (x : Int32) (tj : Nat) : Prop := (ok_J0_getBytes_840e7 tj sb.1 sb.2.1 x (0 : Int32) ∧ (sb.1 < 2147483648 ∧ True))
set_option maxHeartbeats 4000000 in
set_option maxRecDepth 100000 in
theorem c_J5_putStringAt_47b60 (l : Launch) (G : GG) (sbh0 : Nat) (sbh1 : Nat) (sz : Nat) (sb : SbV) (x : Int32) (tj : Nat) (hok : ok_J5_putStringAt_47b60 sb x tj) (hyp_tj : sOK tj) : wMet l yJ5_putStringAt_47b60 cJ5_putStringAt_47b60 3 none 4 0 0 G (fl [[(sbh0, .inr (1, [.ref sbh1, .int (0 : Int32), .int sb.2.2.1, .int sb.2.2.2]))], [(sbh1, .inl (G.2.1 2, sb.1, .inl sb.2.1))]]) [.ref sbh0, .int x, .ref (G.2.2.1 (10 + tj))] sz (fun u : Nat × SbV => none) (fun u : Nat × SbV => u.2 = f_J5_putStringAt_47b60 sb x tj) (fun u : Nat × SbV => fl [[(sbh0, .inr (1, [.ref u.1, .int (0 : Int32), .int u.2.2.2.1, .int u.2.2.2.2]))], [(u.1, .inl (G.2.1 2, u.2.1, .inl u.2.2.1))]]) := by
  refine w_start (by decide +kernel) (Nat.le_of_ble_eq_true rfl) ?_
  intro p e s m below meth c A hx hb hr hml hts hown hlk hin hP hD hA hK hST ls hl
  have hS : va_S A s.heap s.heap [] := va_S.rf
  have hown : s.vm.findClass RJ5 = some m.cls := hown
  have hl : lv_has ls 3 [(0, .ref sbh0), (1, .int x), (2, .ref (G.2.2.1 (10 + tj)))] := hl
  have hF : f_J5_putStringAt_47b60 sb x tj = (let u_5 : (Nat → Int32) := (f_J0_getBytes_840e7 tj sb.1 sb.2.1 x (0 : Int32)); (sb.1, u_5, sb.2.2.1, sb.2.2.2)) := rfl
  have hok : (ok_J0_getBytes_840e7 tj sb.1 sb.2.1 x (0 : Int32) ∧ (sb.1 < 2147483648 ∧ True)) := hok
  refine lv_aload_n hx hb dJ5_putStringAt_47b60_0 rfl (lv_at hl 0 rfl) ?_
  refine lv_aload_n hx hb dJ5_putStringAt_47b60_1 rfl (lv_at hl 2 rfl) ?_
  refine r_P (own := RJ5) (v := none) (st1 := []) (As := [.ref (G.2.2.1 (10 + tj))]) (rest := []) (c_J5_inflateIfNeededFor_a7421 l G sbh0 sbh1 sb tj hyp_tj) ⟨hx, hb, hml, hown, hts⟩ u_289 u_292 u_29 u_291 gP_J5_397 u_1595 rfl hds_J5_inflateIfNeededFor_a7421 hK hST hS hP [0, 1] rfl (va_recv hK hP (ci := 1) (q0 := 0) rfl rfl) ⟨Nat.le_of_ble_eq_true rfl, Nat.le_of_ble_eq_true rfl⟩ ⟨Nat.le_of_ble_eq_true rfl, Nat.le_of_ble_eq_true rfl⟩ rfl hl.1 rfl (Nat.le_of_ble_eq_true rfl) dJ5_putStringAt_47b60_2 rfl (fun b_1 => ?_)
  refine lv_aload_n hx hb dJ5_putStringAt_47b60_5 rfl (lv_at hl 2 rfl) ?_
  refine lv_aload_n hx hb dJ5_putStringAt_47b60_6 rfl (lv_at hl 0 rfl) ?_
  refine va_get (D := G.1) (ci := 1) (v := .ref sbh1) (C := RJ4) (T := TJ4) (N := 4) hx hb hts uws_J4 hown hK hP 0 rfl rfl 0 (by decide) (hts _ u_185) (fun _ h9 => h9) rfl dJ5_putStringAt_47b60_7 ?_
  refine lv_iload_n hx hb dJ5_putStringAt_47b60_10 rfl (lv_at hl 1 rfl) ?_
  refine lv_aload_n hx hb dJ5_putStringAt_47b60_11 rfl (lv_at hl 0 rfl) ?_
  refine va_get (D := G.1) (ci := 1) (v := .int (0 : Int32)) (C := RJ4) (T := TJ4) (N := 4) hx hb hts uws_J4 hown hK hP 0 rfl rfl 1 (by decide) (hts _ u_186) (fun _ h9 => h9) rfl dJ5_putStringAt_47b60_12 ?_
  have k_2 := hok.1
  have hok := hok.2
  have k_3 := hok.1
  have hok := hok.2
  refine w_Vs (own := RJ5) (cs := [[(sbh1, .inl (G.2.1 2, sb.1, .inl sb.2.1))]]) (rs := [[(sbh0, .inr (1, [.ref sbh1, .int (0 : Int32), .int sb.2.2.1, .int sb.2.2.2]))]]) (As := [.ref sbh1, .int x, .int (0 : Int32)]) (rest := []) (c_J0_getBytes_840e7 l G sbh1 s.heap.size tj sb.1 sb.2.1 x (0 : Int32) k_2 hyp_tj k_3) ⟨hx, hb, hml, hown, hts⟩ g_J5_399 hdv_J0_getBytes_840e7 hK hST hS hP hD hA [1] [0] rfl rfl rfl (recv_str hST hS hyp_tj) ⟨Nat.le_of_ble_eq_true rfl, Nat.le_of_ble_eq_true rfl⟩ ⟨Nat.le_of_ble_eq_true rfl, Nat.le_of_ble_eq_true rfl⟩ rfl hl.1 rfl (Nat.le_of_ble_eq_true rfl) dJ5_putStringAt_47b60_15 (fun u_5 H locs huu hP hD hS => ?_)
  have eu_5 := huu
  have hP : va_P G.1 vwCl (fl [[(sbh1, .inl (G.2.1 2, sb.1, .inl u_5))], [(sbh0, .inr (1, [.ref sbh1, .int (0 : Int32), .int sb.2.2.1, .int sb.2.2.2]))]]) H := hP
  have hD : va_D A (fl [[(sbh1, .inl (G.2.1 2, sb.1, .inl u_5))], [(sbh0, .inr (1, [.ref sbh1, .int (0 : Int32), .int sb.2.2.1, .int sb.2.2.2]))]]) := hD
  refine W.eq (g2 := F0 m 18 ls []) rfl ?_
  have hF : f_J5_putStringAt_47b60 sb x tj = (sb.1, u_5, sb.2.2.1, sb.2.2.2) := by subst eu_5; exact hF
  have hP := fl_sub (cs := [[(sbh0, .inr (1, [.ref sbh1, .int (0 : Int32), .int sb.2.2.1, .int sb.2.2.2]))], [(sbh1, .inl (G.2.1 2, sb.1, .inl u_5))]]) [1, 0] rfl hP
  have hD := fl_subD (cs := [[(sbh0, .inr (1, [.ref sbh1, .int (0 : Int32), .int sb.2.2.1, .int sb.2.2.2]))], [(sbh1, .inl (G.2.1 2, sb.1, .inl u_5))]]) [1, 0] rfl rfl hD
  exact w_retV (u := (sbh1, (sb.1, u_5, sb.2.2.1, sb.2.2.2))) hx hb hr hlk hS rfl hF.symm hP hD (Nat.le_of_ble_eq_true rfl) (Nat.le_of_ble_eq_true rfl) dJ5_putStringAt_47b60_18
theorem dJ5_append_cf1ce_0 : decode cJ5_append_cf1ce 0 = .ok (.aload_n 1, 1) := by decide +kernel
theorem dJ5_append_cf1ce_1 : decode cJ5_append_cf1ce 1 = .ok (.ifnonnull 8, 3) := by decide +kernel
theorem dJ5_append_cf1ce_9 : decode cJ5_append_cf1ce 9 = .ok (.aload_n 1, 1) := by decide +kernel
theorem dJ5_append_cf1ce_10 : decode cJ5_append_cf1ce 10 = .ok (.invokevirtual 32, 3) := by decide +kernel
theorem u_276 : Cond.methodLink RJ5 32 yJ0_length_8abf5 ∈ UW := uw 276 (by decide +kernel) rfl
theorem u_277 : Cond.instanceMethod yJ0_length_8abf5 ∈ UW := uw 277 (by decide +kernel) rfl
theorem u_278 : Cond.selects RJ0 yJ0_length_8abf5 yJ0_length_8abf5 ∈ UW := uw 278 (by decide +kernel) rfl
theorem u_279 : Cond.code yJ0_length_8abf5 cJ0_length_8abf5 1 (some .int) ∈ UW := uw 279 (by decide +kernel) rfl
theorem g_J5_32 : GoodIn UW (wsV RJ5 32 RJ0 yJ0_length_8abf5 (wsU yJ0_length_8abf5 cJ0_length_8abf5 1 (some .int))) := gV u_276 u_277 u_278 u_31 u_279
theorem hdv_J0_length_8abf5 : yJ0_length_8abf5.cls = RJ0 ∧ yJ0_length_8abf5.cls ≠ "java/lang/invoke/MethodHandle" ∧ yJ0_length_8abf5.cls ≠ "java/lang/invoke/VarHandle" ∧ (parseMethodDescriptor yJ0_length_8abf5.desc).map (fun d => d.parameters.length) = some 0 := by decide +kernel
theorem dJ5_append_cf1ce_13 : decode cJ5_append_cf1ce 13 = .ok (.istore_n 2, 1) := by decide +kernel
theorem dJ5_append_cf1ce_14 : decode cJ5_append_cf1ce 14 = .ok (.aload_n 0, 1) := by decide +kernel
theorem dJ5_append_cf1ce_15 : decode cJ5_append_cf1ce 15 = .ok (.aload_n 0, 1) := by decide +kernel
theorem dJ5_append_cf1ce_16 : decode cJ5_append_cf1ce 16 = .ok (.getfield 79, 3) := by decide +kernel
theorem dJ5_append_cf1ce_19 : decode cJ5_append_cf1ce 19 = .ok (.iload_n 2, 1) := by decide +kernel
theorem dJ5_append_cf1ce_20 : decode cJ5_append_cf1ce 20 = .ok (.iadd, 1) := by decide +kernel
theorem dJ5_append_cf1ce_21 : decode cJ5_append_cf1ce 21 = .ok (.invokevirtual 100, 3) := by decide +kernel
theorem dJ5_append_cf1ce_24 : decode cJ5_append_cf1ce 24 = .ok (.aload_n 0, 1) := by decide +kernel
theorem dJ5_append_cf1ce_25 : decode cJ5_append_cf1ce 25 = .ok (.aload_n 0, 1) := by decide +kernel
theorem dJ5_append_cf1ce_26 : decode cJ5_append_cf1ce 26 = .ok (.getfield 79, 3) := by decide +kernel
theorem dJ5_append_cf1ce_29 : decode cJ5_append_cf1ce 29 = .ok (.aload_n 1, 1) := by decide +kernel
theorem dJ5_append_cf1ce_30 : decode cJ5_append_cf1ce 30 = .ok (.invokevirtual 208, 3) := by decide +kernel
theorem gP_J5_208 : Cond.privateMethod yJ5_putStringAt_47b60 ∈ CW := cwm 286 (by decide +kernel) rfl
theorem u_285 : Cond.methodLink RJ5 208 yJ5_putStringAt_47b60 ∈ UW := uw 285 (by decide +kernel) rfl
theorem u_288 : Cond.code yJ5_putStringAt_47b60 cJ5_putStringAt_47b60 3 none ∈ UW := uw 288 (by decide +kernel) rfl
theorem u_287 : Cond.instanceMethod yJ5_putStringAt_47b60 ∈ UW := uw 287 (by decide +kernel) rfl
theorem u_1594 : Cond.sameMethod RJ5 RJ5 "putStringAt" "(ILjava/lang/String;)V" ∈ UW := uw 1594 (by decide +kernel) rfl
theorem hds_J5_putStringAt_47b60 : yJ5_putStringAt_47b60.cls ≠ "java/lang/invoke/MethodHandle" ∧ yJ5_putStringAt_47b60.cls ≠ "java/lang/invoke/VarHandle" ∧ (parseMethodDescriptor yJ5_putStringAt_47b60.desc).map (fun d => d.parameters.length) = some 2 := by decide +kernel
theorem dJ5_append_cf1ce_33 : decode cJ5_append_cf1ce 33 = .ok (.aload_n 0, 1) := by decide +kernel
theorem dJ5_append_cf1ce_34 : decode cJ5_append_cf1ce 34 = .ok (.dup, 1) := by decide +kernel
theorem dJ5_append_cf1ce_35 : decode cJ5_append_cf1ce 35 = .ok (.getfield 79, 3) := by decide +kernel
theorem dJ5_append_cf1ce_38 : decode cJ5_append_cf1ce 38 = .ok (.iload_n 2, 1) := by decide +kernel
theorem dJ5_append_cf1ce_39 : decode cJ5_append_cf1ce 39 = .ok (.iadd, 1) := by decide +kernel
theorem dJ5_append_cf1ce_40 : decode cJ5_append_cf1ce 40 = .ok (.putfield 79, 3) := by decide +kernel
theorem dJ5_append_cf1ce_43 : decode cJ5_append_cf1ce 43 = .ok (.aload_n 0, 1) := by decide +kernel
theorem dJ5_append_cf1ce_44 : decode cJ5_append_cf1ce 44 = .ok (.areturn, 1) := by decide +kernel
def f_J5_append_cf1ce (sb : SbV) (tj : Nat) : SbV := (let u_4 : SbV := (f_J5_ensureCapacityInternal_d00df sb (sb.2.2.2 + (f_J0_length_8abf5 tj))); (let u_7 : SbV := (f_J5_putStringAt_47b60 u_4 u_4.2.2.2 tj); (u_7.1, u_7.2.1, u_7.2.2.1, (u_7.2.2.2 + (f_J0_length_8abf5 tj)))))
def ok_J5_append_cf1ce (sb : SbV) (tj : Nat) : Prop := (ok_J5_ensureCapacityInternal_d00df sb (sb.2.2.2 + (f_J0_length_8abf5 tj)) ∧ (let u_4 : SbV := (f_J5_ensureCapacityInternal_d00df sb (sb.2.2.2 + (f_J0_length_8abf5 tj))); (ok_J5_putStringAt_47b60 u_4 u_4.2.2.2 tj ∧ True)))
set_option maxHeartbeats 4000000 in
set_option maxRecDepth 100000 in
theorem c_J5_append_cf1ce (l : Launch) (G : GG) (sbh0 : Nat) (sbh1 : Nat) (sz : Nat) (sb : SbV) (tj : Nat) (hok : ok_J5_append_cf1ce sb tj) (hyp_tj : sOK tj) : wMet l yJ5_append_cf1ce cJ5_append_cf1ce 3 (some (.object "java/lang/AbstractStringBuilder")) 5 1 200 G (fl [[(sbh0, .inr (1, [.ref sbh1, .int (0 : Int32), .int sb.2.2.1, .int sb.2.2.2]))], [(sbh1, .inl (G.2.1 2, sb.1, .inl sb.2.1))]]) [.ref sbh0, .ref (G.2.2.1 (10 + tj))] sz (fun u : Nat × SbV => some (.ref sbh0)) (fun u : Nat × SbV => u.2 = f_J5_append_cf1ce sb tj) (fun u : Nat × SbV => fl [[(sbh0, .inr (1, [.ref u.1, .int (0 : Int32), .int u.2.2.2.1, .int u.2.2.2.2]))], [(u.1, .inl (G.2.1 2, u.2.1, .inl u.2.2.1))]]) := by
  refine w_start (by decide +kernel) (Nat.le_of_ble_eq_true rfl) ?_
  intro p e s m below meth c A hx hb hr hml hts hown hlk hin hP hD hA hK hST ls hl
  have hS : va_S A s.heap s.heap [] := va_S.rf
  have hown : s.vm.findClass RJ5 = some m.cls := hown
  have hl : lv_has ls 3 [(0, .ref sbh0), (1, .ref (G.2.2.1 (10 + tj)))] := hl
  have hF : f_J5_append_cf1ce sb tj = (let u_4 : SbV := (f_J5_ensureCapacityInternal_d00df sb (sb.2.2.2 + (f_J0_length_8abf5 tj))); (let u_7 : SbV := (f_J5_putStringAt_47b60 u_4 u_4.2.2.2 tj); (u_7.1, u_7.2.1, u_7.2.2.1, (u_7.2.2.2 + (f_J0_length_8abf5 tj))))) := rfl
  have hok : (ok_J5_ensureCapacityInternal_d00df sb (sb.2.2.2 + (f_J0_length_8abf5 tj)) ∧ (let u_4 : SbV := (f_J5_ensureCapacityInternal_d00df sb (sb.2.2.2 + (f_J0_length_8abf5 tj))); (ok_J5_putStringAt_47b60 u_4 u_4.2.2.2 tj ∧ True))) := hok
  refine lv_aload_n hx hb dJ5_append_cf1ce_0 rfl (lv_at hl 1 rfl) ?_
  refine lv_ifnonnull (tgt := 9) hx hb dJ5_append_cf1ce_1 (by decide) ?_
  refine lv_aload_n hx hb dJ5_append_cf1ce_9 rfl (lv_at hl 1 rfl) ?_
  refine r_Vs (own := RJ5) (v := (some (.int (f_J0_length_8abf5 tj)))) (st1 := [.int (f_J0_length_8abf5 tj)]) (As := []) (rest := []) (c_J0_length_8abf5 l G tj hyp_tj) ⟨hx, hb, hml, hown, hts⟩ g_J5_32 hdv_J0_length_8abf5 hK hST hS hP [] rfl (recv_str hST hS hyp_tj) ⟨Nat.le_of_ble_eq_true rfl, Nat.le_of_ble_eq_true rfl⟩ ⟨Nat.le_of_ble_eq_true rfl, Nat.le_of_ble_eq_true rfl⟩ rfl hl.1 rfl (Nat.le_of_ble_eq_true rfl) dJ5_append_cf1ce_10 rfl (fun b_1 => ?_)
  refine lv_istore_n (lv' := [(2, .int (f_J0_length_8abf5 tj)), (0, .ref sbh0), (1, .ref (G.2.2.1 (10 + tj)))]) hx hb dJ5_append_cf1ce_13 rfl hl (by decide) rfl (fun ls hl => ?_)
  refine lv_aload_n hx hb dJ5_append_cf1ce_14 rfl (lv_at hl 1 rfl) ?_
  refine lv_aload_n hx hb dJ5_append_cf1ce_15 rfl (lv_at hl 1 rfl) ?_
  refine va_get (D := G.1) (ci := 1) (v := .int sb.2.2.2) (C := RJ4) (T := TJ4) (N := 4) hx hb hts uws_J4 hown hK hP 0 rfl rfl 3 (by decide) (hts _ u_189) (fun _ h9 => h9) rfl dJ5_append_cf1ce_16 ?_
  refine lv_iload_n hx hb dJ5_append_cf1ce_19 rfl (lv_at hl 0 rfl) ?_
  refine lv_iadd hx hb dJ5_append_cf1ce_20 ?_
  have k_2 := hok.1
  have hok := hok.2
  refine w_P (own := RJ5) (cs := [[(sbh0, .inr (1, [.ref sbh1, .int (0 : Int32), .int sb.2.2.1, .int sb.2.2.2]))], [(sbh1, .inl (G.2.1 2, sb.1, .inl sb.2.1))]]) (rs := []) (As := [.int (sb.2.2.2 + (f_J0_length_8abf5 tj))]) (rest := []) (c_J5_ensureCapacityInternal_d00df l G sbh0 sbh1 s.heap.size sb (sb.2.2.2 + (f_J0_length_8abf5 tj)) k_2) ⟨hx, hb, hml, hown, hts⟩ u_210 u_213 u_29 u_212 gP_J5_100 u_1592 rfl hds_J5_ensureCapacityInternal_d00df hK hST hS hP hD hA [0, 1] [] rfl rfl rfl (va_recv hK hP (ci := 1) (q0 := 0) rfl rfl) ⟨Nat.le_of_ble_eq_true rfl, Nat.le_of_ble_eq_true rfl⟩ ⟨Nat.le_of_ble_eq_true rfl, Nat.le_of_ble_eq_true rfl⟩ rfl hl.1 rfl (Nat.le_of_ble_eq_true rfl) dJ5_append_cf1ce_21 (fun u_4 H locs huu hP hD hS => ?_)
  obtain ⟨qu_4, u_4⟩ := u_4
  have eu_4 : u_4 = (f_J5_ensureCapacityInternal_d00df sb (sb.2.2.2 + (f_J0_length_8abf5 tj))) := huu
  have hP : va_P G.1 vwCl (fl [[(sbh0, .inr (1, [.ref qu_4, .int (0 : Int32), .int u_4.2.2.1, .int u_4.2.2.2]))], [(qu_4, .inl (G.2.1 2, u_4.1, .inl u_4.2.1))]]) H := hP
  have hD : va_D A (fl [[(sbh0, .inr (1, [.ref qu_4, .int (0 : Int32), .int u_4.2.2.1, .int u_4.2.2.2]))], [(qu_4, .inl (G.2.1 2, u_4.1, .inl u_4.2.1))]]) := hD
  refine W.eq (g2 := F0 m 24 ls []) rfl ?_
  have hF : f_J5_append_cf1ce sb tj = (let u_7 : SbV := (f_J5_putStringAt_47b60 u_4 u_4.2.2.2 tj); (u_7.1, u_7.2.1, u_7.2.2.1, (u_7.2.2.2 + (f_J0_length_8abf5 tj)))) := by subst eu_4; exact hF
  have hok : (ok_J5_putStringAt_47b60 u_4 u_4.2.2.2 tj ∧ True) := by subst eu_4; exact hok
  refine lv_aload_n hx hb dJ5_append_cf1ce_24 rfl (lv_at hl 1 rfl) ?_
  refine lv_aload_n hx hb dJ5_append_cf1ce_25 rfl (lv_at hl 1 rfl) ?_
  refine va_get (D := G.1) (ci := 1) (v := .int u_4.2.2.2) (C := RJ4) (T := TJ4) (N := 4) hx hb hts uws_J4 hown hK hP 0 rfl rfl 3 (by decide) (hts _ u_189) (fun _ h9 => h9) rfl dJ5_append_cf1ce_26 ?_
  refine lv_aload_n hx hb dJ5_append_cf1ce_29 rfl (lv_at hl 2 rfl) ?_
  have k_5 := hok.1
  have hok := hok.2
  refine w_P (own := RJ5) (cs := [[(sbh0, .inr (1, [.ref qu_4, .int (0 : Int32), .int u_4.2.2.1, .int u_4.2.2.2]))], [(qu_4, .inl (G.2.1 2, u_4.1, .inl u_4.2.1))]]) (rs := []) (As := [.int u_4.2.2.2, .ref (G.2.2.1 (10 + tj))]) (rest := []) (c_J5_putStringAt_47b60 l G sbh0 qu_4 H.size u_4 u_4.2.2.2 tj k_5 hyp_tj) ⟨hx, hb, hml, hown, hts⟩ u_285 u_288 u_29 u_287 gP_J5_208 u_1594 rfl hds_J5_putStringAt_47b60 hK hST hS hP hD hA [0, 1] [] rfl rfl rfl (va_recv hK hP (ci := 1) (q0 := 0) rfl rfl) ⟨Nat.le_of_ble_eq_true rfl, Nat.le_of_ble_eq_true rfl⟩ ⟨Nat.le_of_ble_eq_true rfl, Nat.le_of_ble_eq_true rfl⟩ rfl hl.1 rfl (Nat.le_of_ble_eq_true rfl) dJ5_append_cf1ce_30 (fun u_7 H locs huu hP hD hS => ?_)
  obtain ⟨qu_7, u_7⟩ := u_7
  have eu_7 : u_7 = (f_J5_putStringAt_47b60 u_4 u_4.2.2.2 tj) := huu
  have hP : va_P G.1 vwCl (fl [[(sbh0, .inr (1, [.ref qu_7, .int (0 : Int32), .int u_7.2.2.1, .int u_7.2.2.2]))], [(qu_7, .inl (G.2.1 2, u_7.1, .inl u_7.2.1))]]) H := hP
  have hD : va_D A (fl [[(sbh0, .inr (1, [.ref qu_7, .int (0 : Int32), .int u_7.2.2.1, .int u_7.2.2.2]))], [(qu_7, .inl (G.2.1 2, u_7.1, .inl u_7.2.1))]]) := hD
  refine W.eq (g2 := F0 m 33 ls []) rfl ?_
  have hF : f_J5_append_cf1ce sb tj = (u_7.1, u_7.2.1, u_7.2.2.1, (u_7.2.2.2 + (f_J0_length_8abf5 tj))) := by subst eu_7; exact hF
  refine lv_aload_n hx hb dJ5_append_cf1ce_33 rfl (lv_at hl 1 rfl) ?_
  refine lv_dup hx hb dJ5_append_cf1ce_34 rfl ?_
  refine va_get (D := G.1) (ci := 1) (v := .int u_7.2.2.2) (C := RJ4) (T := TJ4) (N := 4) hx hb hts uws_J4 hown hK hP 0 rfl rfl 3 (by decide) (hts _ u_189) (fun _ h9 => h9) rfl dJ5_append_cf1ce_35 ?_
  refine lv_iload_n hx hb dJ5_append_cf1ce_38 rfl (lv_at hl 0 rfl) ?_
  refine lv_iadd hx hb dJ5_append_cf1ce_39 ?_
  refine va_put (D := G.1) (ci := 1) (v := .int (u_7.2.2.2 + (f_J0_length_8abf5 tj))) (ty := .int) (C := RJ4) (T := TJ4) (N := 4) hx hb hts uws_J4 tyJ4 tyJ4_ok nmJ4 hown hK hP hD hS 0 rfl rfl 3 (by decide) (hts _ u_189) (fun _ h9 => h9) rfl (by decide +kernel) rfl rfl (Nat.le_of_ble_eq_true rfl) dJ5_append_cf1ce_40 (fun H locs hP hD hS => ?_)
  have hP : va_P G.1 vwCl (fl [[(sbh0, .inr (1, [.ref qu_7, .int (0 : Int32), .int u_7.2.2.1, .int (u_7.2.2.2 + (f_J0_length_8abf5 tj))]))], [(qu_7, .inl (G.2.1 2, u_7.1, .inl u_7.2.1))]]) H := hP
  have hD : va_D A (fl [[(sbh0, .inr (1, [.ref qu_7, .int (0 : Int32), .int u_7.2.2.1, .int (u_7.2.2.2 + (f_J0_length_8abf5 tj))]))], [(qu_7, .inl (G.2.1 2, u_7.1, .inl u_7.2.1))]]) := hD
  refine lv_aload_n hx hb dJ5_append_cf1ce_43 rfl (lv_at hl 1 rfl) ?_
  exact w_retA (u := (qu_7, (u_7.1, u_7.2.1, u_7.2.2.1, (u_7.2.2.2 + (f_J0_length_8abf5 tj))))) hx hb hr hlk (Or.inl ⟨_, rfl⟩) (Or.inr ⟨_, rfl⟩) hS rfl hF.symm hP hD (Nat.le_of_ble_eq_true rfl) (Nat.le_of_ble_eq_true rfl) dJ5_append_cf1ce_44
theorem dJ4_append_15ec4_0 : decode cJ4_append_15ec4 0 = .ok (.aload_n 0, 1) := by decide +kernel
theorem dJ4_append_15ec4_1 : decode cJ4_append_15ec4 1 = .ok (.aload_n 1, 1) := by decide +kernel
theorem dJ4_append_15ec4_2 : decode cJ4_append_15ec4 2 = .ok (.invokespecial 29, 3) := by decide +kernel
theorem u_203 : Cond.methodLink RJ4 29 yJ5_append_cf1ce ∈ UW := uw 203 (by decide +kernel) rfl
theorem u_1590 : Cond.sameMethod RJ5 RJ5 "append" "(Ljava/lang/String;)Ljava/lang/AbstractStringBuilder;" ∈ UW := uw 1590 (by decide +kernel) rfl
theorem u_204 : Cond.instanceMethod yJ5_append_cf1ce ∈ UW := uw 204 (by decide +kernel) rfl
theorem u_205 : Cond.code yJ5_append_cf1ce cJ5_append_cf1ce 3 (some (.object "java/lang/AbstractStringBuilder")) ∈ UW := uw 205 (by decide +kernel) rfl
theorem gSU_J4_29 : GoodIn UW (va_wsSU RJ4 29 yJ5_append_cf1ce (wsU yJ5_append_cf1ce cJ5_append_cf1ce 3 (some (.object "java/lang/AbstractStringBuilder")))) := gSU u_203 u_1590 u_159 u_204 u_29 u_205
theorem hdsu_J5_append_cf1ce : yJ5_append_cf1ce.name ≠ "<init>" ∧ (parseMethodDescriptor yJ5_append_cf1ce.desc).map (fun d => d.parameters.length) = some 1 := by decide +kernel
theorem dJ4_append_15ec4_5 : decode cJ4_append_15ec4 5 = .ok (.pop, 1) := by decide +kernel
theorem dJ4_append_15ec4_6 : decode cJ4_append_15ec4 6 = .ok (.aload_n 0, 1) := by decide +kernel
theorem dJ4_append_15ec4_7 : decode cJ4_append_15ec4 7 = .ok (.areturn, 1) := by decide +kernel
def f_J4_append_15ec4 (sb : SbV) (tj : Nat) : SbV := (let u_3 : SbV := (f_J5_append_cf1ce sb tj); u_3)
def ok_J4_append_15ec4 (sb : SbV) (tj : Nat) : Prop := (ok_J5_append_cf1ce sb tj ∧ True)
set_option maxHeartbeats 4000000 in
set_option maxRecDepth 100000 in
theorem c_J4_append_15ec4 (l : Launch) (G : GG) (sbh0 : Nat) (sbh1 : Nat) (sz : Nat) (sb : SbV) (tj : Nat) (hok : ok_J4_append_15ec4 sb tj) (hyp_tj : sOK tj) : wMet l yJ4_append_15ec4 cJ4_append_15ec4 2 (some (.object "java/lang/StringBuilder")) 6 1 200 G (fl [[(sbh0, .inr (1, [.ref sbh1, .int (0 : Int32), .int sb.2.2.1, .int sb.2.2.2]))], [(sbh1, .inl (G.2.1 2, sb.1, .inl sb.2.1))]]) [.ref sbh0, .ref (G.2.2.1 (10 + tj))] sz (fun u : Nat × SbV => some (.ref sbh0)) (fun u : Nat × SbV => u.2 = f_J4_append_15ec4 sb tj) (fun u : Nat × SbV => fl [[(sbh0, .inr (1, [.ref u.1, .int (0 : Int32), .int u.2.2.2.1, .int u.2.2.2.2]))], [(u.1, .inl (G.2.1 2, u.2.1, .inl u.2.2.1))]]) := by
  refine w_start (by decide +kernel) (Nat.le_of_ble_eq_true rfl) ?_
  intro p e s m below meth c A hx hb hr hml hts hown hlk hin hP hD hA hK hST ls hl
  have hS : va_S A s.heap s.heap [] := va_S.rf
  have hown : s.vm.findClass RJ4 = some m.cls := hown
  have hl : lv_has ls 2 [(0, .ref sbh0), (1, .ref (G.2.2.1 (10 + tj)))] := hl
  have hF : f_J4_append_15ec4 sb tj = (let u_3 : SbV := (f_J5_append_cf1ce sb tj); u_3) := rfl
  have hok : (ok_J5_append_cf1ce sb tj ∧ True) := hok
  refine lv_aload_n hx hb dJ4_append_15ec4_0 rfl (lv_at hl 0 rfl) ?_
  refine lv_aload_n hx hb dJ4_append_15ec4_1 rfl (lv_at hl 1 rfl) ?_
  have k_1 := hok.1
  have hok := hok.2
  refine w_SU (own := RJ4) (cs := [[(sbh0, .inr (1, [.ref sbh1, .int (0 : Int32), .int sb.2.2.1, .int sb.2.2.2]))], [(sbh1, .inl (G.2.1 2, sb.1, .inl sb.2.1))]]) (rs := []) (As := [.ref (G.2.2.1 (10 + tj))]) (rest := []) (c_J5_append_cf1ce l G sbh0 sbh1 s.heap.size sb tj k_1 hyp_tj) ⟨hx, hb, hml, hown, hts⟩ gSU_J4_29 hdsu_J5_append_cf1ce 1 _ rfl rfl hK hST hS hP hD hA [0, 1] [] rfl rfl rfl (va_recv hK hP (ci := 1) (q0 := 0) rfl rfl) ⟨Nat.le_of_ble_eq_true rfl, Nat.le_of_ble_eq_true rfl⟩ ⟨Nat.le_of_ble_eq_true rfl, Nat.le_of_ble_eq_true rfl⟩ rfl hl.1 rfl (Nat.le_of_ble_eq_true rfl) dJ4_append_15ec4_2 (fun u_3 H locs huu hP hD hS => ?_)
  obtain ⟨qu_3, u_3⟩ := u_3
  have eu_3 : u_3 = (f_J5_append_cf1ce sb tj) := huu
  have hP : va_P G.1 vwCl (fl [[(sbh0, .inr (1, [.ref qu_3, .int (0 : Int32), .int u_3.2.2.1, .int u_3.2.2.2]))], [(qu_3, .inl (G.2.1 2, u_3.1, .inl u_3.2.1))]]) H := hP
  have hD : va_D A (fl [[(sbh0, .inr (1, [.ref qu_3, .int (0 : Int32), .int u_3.2.2.1, .int u_3.2.2.2]))], [(qu_3, .inl (G.2.1 2, u_3.1, .inl u_3.2.1))]]) := hD
  refine W.eq (g2 := F0 m 5 ls [.ref sbh0]) rfl ?_
  have hF : f_J4_append_15ec4 sb tj = u_3 := by subst eu_3; exact hF
  refine lv_pop hx hb dJ4_append_15ec4_5 rfl ?_
  refine lv_aload_n hx hb dJ4_append_15ec4_6 rfl (lv_at hl 0 rfl) ?_
  exact w_retA (u := (qu_3, u_3)) hx hb hr hlk (Or.inl ⟨_, rfl⟩) (Or.inr ⟨_, rfl⟩) hS rfl hF.symm hP hD (Nat.le_of_ble_eq_true rfl) (Nat.le_of_ble_eq_true rfl) dJ4_append_15ec4_7
theorem dJ6_stringSize_0f7a4_0 : decode cJ6_stringSize_0f7a4 0 = .ok (.iconst 1, 1) := by decide +kernel
theorem dJ6_stringSize_0f7a4_1 : decode cJ6_stringSize_0f7a4 1 = .ok (.istore_n 1, 1) := by decide +kernel
theorem dJ6_stringSize_0f7a4_2 : decode cJ6_stringSize_0f7a4 2 = .ok (.iload_n 0, 1) := by decide +kernel
theorem dJ6_stringSize_0f7a4_3 : decode cJ6_stringSize_0f7a4 3 = .ok (.ifCond .lt 8, 3) := by decide +kernel
theorem dJ6_stringSize_0f7a4_11 : decode cJ6_stringSize_0f7a4 11 = .ok (.bipush (-10), 2) := by decide +kernel
theorem dJ6_stringSize_0f7a4_13 : decode cJ6_stringSize_0f7a4 13 = .ok (.istore_n 2, 1) := by decide +kernel
theorem dJ6_stringSize_0f7a4_14 : decode cJ6_stringSize_0f7a4 14 = .ok (.iconst 1, 1) := by decide +kernel
theorem dJ6_stringSize_0f7a4_15 : decode cJ6_stringSize_0f7a4 15 = .ok (.istore_n 3, 1) := by decide +kernel
theorem dJ6_stringSize_0f7a4_16 : decode cJ6_stringSize_0f7a4 16 = .ok (.iload_n 3, 1) := by decide +kernel
theorem dJ6_stringSize_0f7a4_17 : decode cJ6_stringSize_0f7a4 17 = .ok (.bipush 10, 2) := by decide +kernel
theorem dJ6_stringSize_0f7a4_19 : decode cJ6_stringSize_0f7a4 19 = .ok (.if_icmp .ge 23, 3) := by decide +kernel
theorem dJ6_stringSize_0f7a4_42 : decode cJ6_stringSize_0f7a4 42 = .ok (.bipush 10, 2) := by decide +kernel
theorem dJ6_stringSize_0f7a4_44 : decode cJ6_stringSize_0f7a4 44 = .ok (.iload_n 1, 1) := by decide +kernel
theorem dJ6_stringSize_0f7a4_45 : decode cJ6_stringSize_0f7a4 45 = .ok (.iadd, 1) := by decide +kernel
theorem dJ6_stringSize_0f7a4_46 : decode cJ6_stringSize_0f7a4 46 = .ok (.ireturn, 1) := by decide +kernel
theorem dJ6_stringSize_0f7a4_22 : decode cJ6_stringSize_0f7a4 22 = .ok (.iload_n 0, 1) := by decide +kernel
theorem dJ6_stringSize_0f7a4_23 : decode cJ6_stringSize_0f7a4 23 = .ok (.iload_n 2, 1) := by decide +kernel
theorem dJ6_stringSize_0f7a4_24 : decode cJ6_stringSize_0f7a4 24 = .ok (.if_icmp .le 7, 3) := by decide +kernel
theorem dJ6_stringSize_0f7a4_31 : decode cJ6_stringSize_0f7a4 31 = .ok (.bipush 10, 2) := by decide +kernel
theorem dJ6_stringSize_0f7a4_33 : decode cJ6_stringSize_0f7a4 33 = .ok (.iload_n 2, 1) := by decide +kernel
theorem dJ6_stringSize_0f7a4_34 : decode cJ6_stringSize_0f7a4 34 = .ok (.imul, 1) := by decide +kernel
theorem dJ6_stringSize_0f7a4_35 : decode cJ6_stringSize_0f7a4 35 = .ok (.istore_n 2, 1) := by decide +kernel
theorem dJ6_stringSize_0f7a4_36 : decode cJ6_stringSize_0f7a4 36 = .ok (.iinc 3 1, 3) := by decide +kernel
theorem dJ6_stringSize_0f7a4_39 : decode cJ6_stringSize_0f7a4 39 = .ok (.goto (-23), 3) := by decide +kernel
theorem dJ6_stringSize_0f7a4_27 : decode cJ6_stringSize_0f7a4 27 = .ok (.iload_n 3, 1) := by decide +kernel
theorem dJ6_stringSize_0f7a4_28 : decode cJ6_stringSize_0f7a4 28 = .ok (.iload_n 1, 1) := by decide +kernel
theorem dJ6_stringSize_0f7a4_29 : decode cJ6_stringSize_0f7a4 29 = .ok (.iadd, 1) := by decide +kernel
theorem dJ6_stringSize_0f7a4_30 : decode cJ6_stringSize_0f7a4 30 = .ok (.ireturn, 1) := by decide +kernel
theorem dJ6_stringSize_0f7a4_6 : decode cJ6_stringSize_0f7a4 6 = .ok (.iconst 0, 1) := by decide +kernel
theorem dJ6_stringSize_0f7a4_7 : decode cJ6_stringSize_0f7a4 7 = .ok (.istore_n 1, 1) := by decide +kernel
theorem dJ6_stringSize_0f7a4_8 : decode cJ6_stringSize_0f7a4 8 = .ok (.iload_n 0, 1) := by decide +kernel
theorem dJ6_stringSize_0f7a4_9 : decode cJ6_stringSize_0f7a4 9 = .ok (.ineg, 1) := by decide +kernel
theorem dJ6_stringSize_0f7a4_10 : decode cJ6_stringSize_0f7a4 10 = .ok (.istore_n 0, 1) := by decide +kernel
def lp_J6_stringSize_0f7a4_16 (x : Int32) : Nat → Int32 → Int32 → Int32
  | 0, _, _ => 0
  | n + 1, x3, x2 => (if (10 : Int32) ≤ x3 then ((10 : Int32) + (1 : Int32)) else (if x ≤ x2 then (lp_J6_stringSize_0f7a4_16 x n (x3 + 1) ((10 : Int32) * x2)) else (x3 + (1 : Int32))))
def okl_lp_J6_stringSize_0f7a4_16 (x : Int32) : Nat → Int32 → Int32 → Prop
  | 0, _, _ => False
  | n + 1, x3, x2 => (if (10 : Int32) ≤ x3 then True else (if x ≤ x2 then (okl_lp_J6_stringSize_0f7a4_16 x n (x3 + 1) ((10 : Int32) * x2)) else True))
def lp_J6_stringSize_0f7a4_16' (x : Int32) : Nat → Int32 → Int32 → Int32
  | 0, _, _ => 0
  | n + 1, x3, x2 => (if (10 : Int32) ≤ x3 then ((10 : Int32) + (0 : Int32)) else (if (-x) ≤ x2 then (lp_J6_stringSize_0f7a4_16' x n (x3 + 1) ((10 : Int32) * x2)) else (x3 + (0 : Int32))))
def okl_lp_J6_stringSize_0f7a4_16' (x : Int32) : Nat → Int32 → Int32 → Prop
  | 0, _, _ => False
  | n + 1, x3, x2 => (if (10 : Int32) ≤ x3 then True else (if (-x) ≤ x2 then (okl_lp_J6_stringSize_0f7a4_16' x n (x3 + 1) ((10 : Int32) * x2)) else True))
def f_J6_stringSize_0f7a4 (x : Int32) : Int32 := (if x < (0 : Int32) then (lp_J6_stringSize_0f7a4_16 x 10 (1 : Int32) (-10 : Int32)) else (lp_J6_stringSize_0f7a4_16' x 10 (1 : Int32) (-10 : Int32)))
def ok_J6_stringSize_0f7a4 (x : Int32) : Prop := (if x < (0 : Int32) then (okl_lp_J6_stringSize_0f7a4_16 x 10 (1 : Int32) (-10 : Int32)) else (okl_lp_J6_stringSize_0f7a4_16' x 10 (1 : Int32) (-10 : Int32)))
set_option maxHeartbeats 4000000 in
set_option maxRecDepth 100000 in
theorem c_J6_stringSize_0f7a4 (l : Launch) (G : GG)  (x : Int32) (hok : ok_J6_stringSize_0f7a4 x) : rMet l yJ6_stringSize_0f7a4 cJ6_stringSize_0f7a4 4 (some .int) 1 G (fl []) [.int x] (some (.int (f_J6_stringSize_0f7a4 x))) (True) := by
  refine r_start (by decide +kernel) (Nat.le_of_ble_eq_true rfl) ?_
  intro p e s m below meth c hx hb hr hml hts hown hlk hP hK hST ls hl
  have hS : va_S (fun _ => False) s.heap s.heap [] := va_S.rf
  have hown : s.vm.findClass RJ6 = some m.cls := hown
  have hl : lv_has ls 4 [(0, .int x)] := hl
  have hF : f_J6_stringSize_0f7a4 x = (if x < (0 : Int32) then (lp_J6_stringSize_0f7a4_16 x 10 (1 : Int32) (-10 : Int32)) else (lp_J6_stringSize_0f7a4_16' x 10 (1 : Int32) (-10 : Int32))) := rfl
  have hok : (if x < (0 : Int32) then (okl_lp_J6_stringSize_0f7a4_16 x 10 (1 : Int32) (-10 : Int32)) else (okl_lp_J6_stringSize_0f7a4_16' x 10 (1 : Int32) (-10 : Int32))) := hok
  refine lv_iconst (v := (1 : Int32)) hx hb dJ6_stringSize_0f7a4_0 (by decide) ?_
  refine lv_istore_n (lv' := [(1, .int (1 : Int32)), (0, .int x)]) hx hb dJ6_stringSize_0f7a4_1 rfl hl (by decide) rfl (fun ls hl => ?_)
  refine lv_iload_n hx hb dJ6_stringSize_0f7a4_2 rfl (lv_at hl 1 rfl) ?_
  refine lv_if_lt (tgt := 11) hx hb dJ6_stringSize_0f7a4_3 (by decide) (fun c_1 => ?_) (fun c_1 => ?_)
  · have hF := hF.trans (if_pos c_1)
    have hok := Eq.mp (if_pos c_1) hok
    refine lv_bipush (v := (-10 : Int32)) hx hb dJ6_stringSize_0f7a4_11 (by decide) ?_
    refine lv_istore_n (lv' := [(2, .int (-10 : Int32)), (1, .int (1 : Int32)), (0, .int x)]) hx hb dJ6_stringSize_0f7a4_13 rfl hl (by decide) rfl (fun ls hl => ?_)
    refine lv_iconst (v := (1 : Int32)) hx hb dJ6_stringSize_0f7a4_14 (by decide) ?_
    refine lv_istore_n (lv' := [(3, .int (1 : Int32)), (2, .int (-10 : Int32)), (1, .int (1 : Int32)), (0, .int x)]) hx hb dJ6_stringSize_0f7a4_15 rfl hl (by decide) rfl (fun ls hl => ?_)
    have L16 : ∀ (n : Nat) (x3 : Int32) (x2 : Int32) (ls : Array Slot), lv_has ls 4 [(3, .int x3), (2, .int x2), (1, .int (1 : Int32)), (0, .int x)] → (True) → f_J6_stringSize_0f7a4 x = lp_J6_stringSize_0f7a4_16 x n x3 x2 → okl_lp_J6_stringSize_0f7a4_16 x n x3 x2 → W p l e (rmd 1 0 0) s m ([.int x] : List Value).toArray below meth c s.heap [] 0 0 (MQ below (rQ (some (.int (f_J6_stringSize_0f7a4 x))) (True)) ([.int x] : List Value).toArray s 0 0 (fun _ => False)) (F0 m 16 ls []) := by
      intro n
      induction n with
      | zero => intro x3 x2 ls hl hu hF hok; exact hok.elim
      | succ n ih =>
        intro x3 x2 ls hl hu hF hok
        have hF : f_J6_stringSize_0f7a4 x = (if (10 : Int32) ≤ x3 then ((10 : Int32) + (1 : Int32)) else (if x ≤ x2 then (lp_J6_stringSize_0f7a4_16 x n (x3 + 1) ((10 : Int32) * x2)) else (x3 + (1 : Int32)))) := hF
        have hok : (if (10 : Int32) ≤ x3 then True else (if x ≤ x2 then (okl_lp_J6_stringSize_0f7a4_16 x n (x3 + 1) ((10 : Int32) * x2)) else True)) := hok
        refine lv_iload_n hx hb dJ6_stringSize_0f7a4_16 rfl (lv_at hl 0 rfl) ?_
        refine lv_bipush (v := (10 : Int32)) hx hb dJ6_stringSize_0f7a4_17 (by decide) ?_
        refine lv_icmp_ge (tgt := 42) hx hb dJ6_stringSize_0f7a4_19 (by decide) (fun c_2 => ?_) (fun c_2 => ?_)
        · have hF := hF.trans (if_pos c_2)
          have hok := Eq.mp (if_pos c_2) hok
          refine lv_bipush (v := (10 : Int32)) hx hb dJ6_stringSize_0f7a4_42 (by decide) ?_
          refine lv_iload_n hx hb dJ6_stringSize_0f7a4_44 rfl (lv_at hl 2 rfl) ?_
          refine lv_iadd hx hb dJ6_stringSize_0f7a4_45 ?_
          exact r_ret hx hb hr hlk rfl (by rw [hF]) trivial dJ6_stringSize_0f7a4_46
        · have hF := hF.trans (if_neg c_2)
          have hok := Eq.mp (if_neg c_2) hok
          refine lv_iload_n hx hb dJ6_stringSize_0f7a4_22 rfl (lv_at hl 3 rfl) ?_
          refine lv_iload_n hx hb dJ6_stringSize_0f7a4_23 rfl (lv_at hl 1 rfl) ?_
          refine lv_icmp_le (tgt := 31) hx hb dJ6_stringSize_0f7a4_24 (by decide) (fun c_3 => ?_) (fun c_3 => ?_)
          · have hF := hF.trans (if_pos c_3)
            have hok := Eq.mp (if_pos c_3) hok
            refine lv_bipush (v := (10 : Int32)) hx hb dJ6_stringSize_0f7a4_31 (by decide) ?_
            refine lv_iload_n hx hb dJ6_stringSize_0f7a4_33 rfl (lv_at hl 1 rfl) ?_
            refine lv_imul hx hb dJ6_stringSize_0f7a4_34 ?_
            refine lv_istore_n (lv' := [(2, .int ((10 : Int32) * x2)), (3, .int x3), (1, .int (1 : Int32)), (0, .int x)]) hx hb dJ6_stringSize_0f7a4_35 rfl hl (by decide) rfl (fun ls hl => ?_)
            refine lv_iinc (v := (x3 + 1)) (lv' := [(3, .int (x3 + 1)), (2, .int ((10 : Int32) * x2)), (1, .int (1 : Int32)), (0, .int x)]) hx hb dJ6_stringSize_0f7a4_36 hl (k := 1) rfl rfl (by decide) rfl (fun ls hl => ?_)
            refine lv_goto (tgt := 16) hx hb dJ6_stringSize_0f7a4_39 (by decide) ?_
            exact ih (x3 + 1) ((10 : Int32) * x2) ls (lv_sub hl [0, 1, 2, 3] rfl) (trivial) hF hok
          · have hF := hF.trans (if_neg c_3)
            have hok := Eq.mp (if_neg c_3) hok
            refine lv_iload_n hx hb dJ6_stringSize_0f7a4_27 rfl (lv_at hl 0 rfl) ?_
            refine lv_iload_n hx hb dJ6_stringSize_0f7a4_28 rfl (lv_at hl 2 rfl) ?_
            refine lv_iadd hx hb dJ6_stringSize_0f7a4_29 ?_
            exact r_ret hx hb hr hlk rfl (by rw [hF]) trivial dJ6_stringSize_0f7a4_30
    exact L16 10 (1 : Int32) (-10 : Int32) ls (lv_sub hl [0, 1, 2, 3] rfl) (trivial) hF hok
  · have hF := hF.trans (if_neg c_1)
    have hok := Eq.mp (if_neg c_1) hok
    refine lv_iconst (v := (0 : Int32)) hx hb dJ6_stringSize_0f7a4_6 (by decide) ?_
    refine lv_istore_n (lv' := [(1, .int (0 : Int32)), (0, .int x)]) hx hb dJ6_stringSize_0f7a4_7 rfl hl (by decide) rfl (fun ls hl => ?_)
    refine lv_iload_n hx hb dJ6_stringSize_0f7a4_8 rfl (lv_at hl 1 rfl) ?_
    refine lv_ineg hx hb dJ6_stringSize_0f7a4_9 ?_
    refine lv_istore_n (lv' := [(0, .int (-x)), (1, .int (0 : Int32))]) hx hb dJ6_stringSize_0f7a4_10 rfl hl (by decide) rfl (fun ls hl => ?_)
    refine lv_bipush (v := (-10 : Int32)) hx hb dJ6_stringSize_0f7a4_11 (by decide) ?_
    refine lv_istore_n (lv' := [(2, .int (-10 : Int32)), (0, .int (-x)), (1, .int (0 : Int32))]) hx hb dJ6_stringSize_0f7a4_13 rfl hl (by decide) rfl (fun ls hl => ?_)
    refine lv_iconst (v := (1 : Int32)) hx hb dJ6_stringSize_0f7a4_14 (by decide) ?_
    refine lv_istore_n (lv' := [(3, .int (1 : Int32)), (2, .int (-10 : Int32)), (0, .int (-x)), (1, .int (0 : Int32))]) hx hb dJ6_stringSize_0f7a4_15 rfl hl (by decide) rfl (fun ls hl => ?_)
    have L16 : ∀ (n : Nat) (x3 : Int32) (x2 : Int32) (ls : Array Slot), lv_has ls 4 [(3, .int x3), (2, .int x2), (0, .int (-x)), (1, .int (0 : Int32))] → (True) → f_J6_stringSize_0f7a4 x = lp_J6_stringSize_0f7a4_16' x n x3 x2 → okl_lp_J6_stringSize_0f7a4_16' x n x3 x2 → W p l e (rmd 1 0 0) s m ([.int x] : List Value).toArray below meth c s.heap [] 0 0 (MQ below (rQ (some (.int (f_J6_stringSize_0f7a4 x))) (True)) ([.int x] : List Value).toArray s 0 0 (fun _ => False)) (F0 m 16 ls []) := by
      intro n
      induction n with
      | zero => intro x3 x2 ls hl hu hF hok; exact hok.elim
      | succ n ih =>
        intro x3 x2 ls hl hu hF hok
        have hF : f_J6_stringSize_0f7a4 x = (if (10 : Int32) ≤ x3 then ((10 : Int32) + (0 : Int32)) else (if (-x) ≤ x2 then (lp_J6_stringSize_0f7a4_16' x n (x3 + 1) ((10 : Int32) * x2)) else (x3 + (0 : Int32)))) := hF
        have hok : (if (10 : Int32) ≤ x3 then True else (if (-x) ≤ x2 then (okl_lp_J6_stringSize_0f7a4_16' x n (x3 + 1) ((10 : Int32) * x2)) else True)) := hok
        refine lv_iload_n hx hb dJ6_stringSize_0f7a4_16 rfl (lv_at hl 0 rfl) ?_
        refine lv_bipush (v := (10 : Int32)) hx hb dJ6_stringSize_0f7a4_17 (by decide) ?_
        refine lv_icmp_ge (tgt := 42) hx hb dJ6_stringSize_0f7a4_19 (by decide) (fun c_4 => ?_) (fun c_4 => ?_)
        · have hF := hF.trans (if_pos c_4)
          have hok := Eq.mp (if_pos c_4) hok
          refine lv_bipush (v := (10 : Int32)) hx hb dJ6_stringSize_0f7a4_42 (by decide) ?_
          refine lv_iload_n hx hb dJ6_stringSize_0f7a4_44 rfl (lv_at hl 3 rfl) ?_
          refine lv_iadd hx hb dJ6_stringSize_0f7a4_45 ?_
          exact r_ret hx hb hr hlk rfl (by rw [hF]) trivial dJ6_stringSize_0f7a4_46
        · have hF := hF.trans (if_neg c_4)
          have hok := Eq.mp (if_neg c_4) hok
          refine lv_iload_n hx hb dJ6_stringSize_0f7a4_22 rfl (lv_at hl 2 rfl) ?_
          refine lv_iload_n hx hb dJ6_stringSize_0f7a4_23 rfl (lv_at hl 1 rfl) ?_
          refine lv_icmp_le (tgt := 31) hx hb dJ6_stringSize_0f7a4_24 (by decide) (fun c_5 => ?_) (fun c_5 => ?_)
          · have hF := hF.trans (if_pos c_5)
            have hok := Eq.mp (if_pos c_5) hok
            refine lv_bipush (v := (10 : Int32)) hx hb dJ6_stringSize_0f7a4_31 (by decide) ?_
            refine lv_iload_n hx hb dJ6_stringSize_0f7a4_33 rfl (lv_at hl 1 rfl) ?_
            refine lv_imul hx hb dJ6_stringSize_0f7a4_34 ?_
            refine lv_istore_n (lv' := [(2, .int ((10 : Int32) * x2)), (3, .int x3), (0, .int (-x)), (1, .int (0 : Int32))]) hx hb dJ6_stringSize_0f7a4_35 rfl hl (by decide) rfl (fun ls hl => ?_)
            refine lv_iinc (v := (x3 + 1)) (lv' := [(3, .int (x3 + 1)), (2, .int ((10 : Int32) * x2)), (0, .int (-x)), (1, .int (0 : Int32))]) hx hb dJ6_stringSize_0f7a4_36 hl (k := 1) rfl rfl (by decide) rfl (fun ls hl => ?_)
            refine lv_goto (tgt := 16) hx hb dJ6_stringSize_0f7a4_39 (by decide) ?_
            exact ih (x3 + 1) ((10 : Int32) * x2) ls (lv_sub hl [0, 1, 2, 3] rfl) (trivial) hF hok
          · have hF := hF.trans (if_neg c_5)
            have hok := Eq.mp (if_neg c_5) hok
            refine lv_iload_n hx hb dJ6_stringSize_0f7a4_27 rfl (lv_at hl 0 rfl) ?_
            refine lv_iload_n hx hb dJ6_stringSize_0f7a4_28 rfl (lv_at hl 3 rfl) ?_
            refine lv_iadd hx hb dJ6_stringSize_0f7a4_29 ?_
            exact r_ret hx hb hr hlk rfl (by rw [hF]) trivial dJ6_stringSize_0f7a4_30
    exact L16 10 (1 : Int32) (-10 : Int32) ls (lv_sub hl [0, 1, 2, 3] rfl) (trivial) hF hok
theorem dJ6_getChars_ba4f3_0 : decode cJ6_getChars_ba4f3 0 = .ok (.iload_n 1, 1) := by decide +kernel
theorem dJ6_getChars_ba4f3_1 : decode cJ6_getChars_ba4f3 1 = .ok (.istore 5, 2) := by decide +kernel
theorem dJ6_getChars_ba4f3_3 : decode cJ6_getChars_ba4f3 3 = .ok (.iload_n 0, 1) := by decide +kernel
theorem dJ6_getChars_ba4f3_4 : decode cJ6_getChars_ba4f3 4 = .ok (.ifCond .ge 7, 3) := by decide +kernel
theorem dJ6_getChars_ba4f3_11 : decode cJ6_getChars_ba4f3 11 = .ok (.iconst 0, 1) := by decide +kernel
theorem dJ6_getChars_ba4f3_12 : decode cJ6_getChars_ba4f3 12 = .ok (.istore 6, 2) := by decide +kernel
theorem dJ6_getChars_ba4f3_14 : decode cJ6_getChars_ba4f3 14 = .ok (.iload 6, 2) := by decide +kernel
theorem dJ6_getChars_ba4f3_16 : decode cJ6_getChars_ba4f3 16 = .ok (.ifCond .ne 6, 3) := by decide +kernel
theorem dJ6_getChars_ba4f3_19 : decode cJ6_getChars_ba4f3 19 = .ok (.iload_n 0, 1) := by decide +kernel
theorem dJ6_getChars_ba4f3_20 : decode cJ6_getChars_ba4f3 20 = .ok (.ineg, 1) := by decide +kernel
theorem dJ6_getChars_ba4f3_21 : decode cJ6_getChars_ba4f3 21 = .ok (.istore_n 0, 1) := by decide +kernel
theorem dJ6_getChars_ba4f3_22 : decode cJ6_getChars_ba4f3 22 = .ok (.iload_n 0, 1) := by decide +kernel
theorem dJ6_getChars_ba4f3_23 : decode cJ6_getChars_ba4f3 23 = .ok (.bipush (-100), 2) := by decide +kernel
theorem dJ6_getChars_ba4f3_25 : decode cJ6_getChars_ba4f3 25 = .ok (.if_icmp .gt 47, 3) := by decide +kernel
theorem dJ6_getChars_ba4f3_72 : decode cJ6_getChars_ba4f3 72 = .ok (.aload_n 2, 1) := by decide +kernel
theorem dJ6_getChars_ba4f3_73 : decode cJ6_getChars_ba4f3 73 = .ok (.iinc 5 (-1), 3) := by decide +kernel
theorem dJ6_getChars_ba4f3_76 : decode cJ6_getChars_ba4f3 76 = .ok (.iload 5, 2) := by decide +kernel
theorem dJ6_getChars_ba4f3_78 : decode cJ6_getChars_ba4f3 78 = .ok (.getstatic 83, 3) := by decide +kernel
theorem u_332 : Cond.fieldLink RJ6 83 "java/lang/Integer" "DigitOnes" "[B" ∈ UW := uw 332 (by decide +kernel) rfl
theorem dJ6_getChars_ba4f3_81 : decode cJ6_getChars_ba4f3 81 = .ok (.iload_n 0, 1) := by decide +kernel
theorem dJ6_getChars_ba4f3_82 : decode cJ6_getChars_ba4f3 82 = .ok (.ineg, 1) := by decide +kernel
theorem dJ6_getChars_ba4f3_83 : decode cJ6_getChars_ba4f3 83 = .ok (.baload, 1) := by decide +kernel
theorem dJ6_getChars_ba4f3_84 : decode cJ6_getChars_ba4f3 84 = .ok (.bastore, 1) := by decide +kernel
theorem dJ6_getChars_ba4f3_85 : decode cJ6_getChars_ba4f3 85 = .ok (.iload_n 0, 1) := by decide +kernel
theorem dJ6_getChars_ba4f3_86 : decode cJ6_getChars_ba4f3 86 = .ok (.bipush (-9), 2) := by decide +kernel
theorem dJ6_getChars_ba4f3_88 : decode cJ6_getChars_ba4f3 88 = .ok (.if_icmp .ge 16, 3) := by decide +kernel
theorem dJ6_getChars_ba4f3_104 : decode cJ6_getChars_ba4f3 104 = .ok (.iload 6, 2) := by decide +kernel
theorem dJ6_getChars_ba4f3_106 : decode cJ6_getChars_ba4f3 106 = .ok (.ifCond .eq 12, 3) := by decide +kernel
theorem dJ6_getChars_ba4f3_118 : decode cJ6_getChars_ba4f3 118 = .ok (.iload 5, 2) := by decide +kernel
theorem dJ6_getChars_ba4f3_120 : decode cJ6_getChars_ba4f3 120 = .ok (.ireturn, 1) := by decide +kernel
theorem dJ6_getChars_ba4f3_91 : decode cJ6_getChars_ba4f3 91 = .ok (.aload_n 2, 1) := by decide +kernel
theorem dJ6_getChars_ba4f3_92 : decode cJ6_getChars_ba4f3 92 = .ok (.iinc 5 (-1), 3) := by decide +kernel
theorem dJ6_getChars_ba4f3_95 : decode cJ6_getChars_ba4f3 95 = .ok (.iload 5, 2) := by decide +kernel
theorem dJ6_getChars_ba4f3_97 : decode cJ6_getChars_ba4f3 97 = .ok (.getstatic 87, 3) := by decide +kernel
theorem u_334 : Cond.fieldLink RJ6 87 "java/lang/Integer" "DigitTens" "[B" ∈ UW := uw 334 (by decide +kernel) rfl
theorem dJ6_getChars_ba4f3_100 : decode cJ6_getChars_ba4f3 100 = .ok (.iload_n 0, 1) := by decide +kernel
theorem dJ6_getChars_ba4f3_101 : decode cJ6_getChars_ba4f3 101 = .ok (.ineg, 1) := by decide +kernel
theorem dJ6_getChars_ba4f3_102 : decode cJ6_getChars_ba4f3 102 = .ok (.baload, 1) := by decide +kernel
theorem dJ6_getChars_ba4f3_103 : decode cJ6_getChars_ba4f3 103 = .ok (.bastore, 1) := by decide +kernel
theorem dJ6_getChars_ba4f3_28 : decode cJ6_getChars_ba4f3 28 = .ok (.iload_n 0, 1) := by decide +kernel
theorem dJ6_getChars_ba4f3_29 : decode cJ6_getChars_ba4f3 29 = .ok (.bipush 100, 2) := by decide +kernel
theorem dJ6_getChars_ba4f3_31 : decode cJ6_getChars_ba4f3 31 = .ok (.idiv, 1) := by decide +kernel
theorem dJ6_getChars_ba4f3_32 : decode cJ6_getChars_ba4f3 32 = .ok (.istore_n 3, 1) := by decide +kernel
theorem dJ6_getChars_ba4f3_33 : decode cJ6_getChars_ba4f3 33 = .ok (.iload_n 3, 1) := by decide +kernel
theorem dJ6_getChars_ba4f3_34 : decode cJ6_getChars_ba4f3 34 = .ok (.bipush 100, 2) := by decide +kernel
theorem dJ6_getChars_ba4f3_36 : decode cJ6_getChars_ba4f3 36 = .ok (.imul, 1) := by decide +kernel
theorem dJ6_getChars_ba4f3_37 : decode cJ6_getChars_ba4f3 37 = .ok (.iload_n 0, 1) := by decide +kernel
theorem dJ6_getChars_ba4f3_38 : decode cJ6_getChars_ba4f3 38 = .ok (.isub, 1) := by decide +kernel
theorem dJ6_getChars_ba4f3_39 : decode cJ6_getChars_ba4f3 39 = .ok (.istore 4, 2) := by decide +kernel
theorem dJ6_getChars_ba4f3_41 : decode cJ6_getChars_ba4f3 41 = .ok (.iload_n 3, 1) := by decide +kernel
theorem dJ6_getChars_ba4f3_42 : decode cJ6_getChars_ba4f3 42 = .ok (.istore_n 0, 1) := by decide +kernel
theorem dJ6_getChars_ba4f3_43 : decode cJ6_getChars_ba4f3 43 = .ok (.aload_n 2, 1) := by decide +kernel
theorem dJ6_getChars_ba4f3_44 : decode cJ6_getChars_ba4f3 44 = .ok (.iinc 5 (-1), 3) := by decide +kernel
theorem dJ6_getChars_ba4f3_47 : decode cJ6_getChars_ba4f3 47 = .ok (.iload 5, 2) := by decide +kernel
theorem dJ6_getChars_ba4f3_49 : decode cJ6_getChars_ba4f3 49 = .ok (.getstatic 83, 3) := by decide +kernel
theorem dJ6_getChars_ba4f3_52 : decode cJ6_getChars_ba4f3 52 = .ok (.iload 4, 2) := by decide +kernel
theorem dJ6_getChars_ba4f3_54 : decode cJ6_getChars_ba4f3 54 = .ok (.baload, 1) := by decide +kernel
theorem dJ6_getChars_ba4f3_55 : decode cJ6_getChars_ba4f3 55 = .ok (.bastore, 1) := by decide +kernel
theorem dJ6_getChars_ba4f3_56 : decode cJ6_getChars_ba4f3 56 = .ok (.aload_n 2, 1) := by decide +kernel
theorem dJ6_getChars_ba4f3_57 : decode cJ6_getChars_ba4f3 57 = .ok (.iinc 5 (-1), 3) := by decide +kernel
theorem dJ6_getChars_ba4f3_60 : decode cJ6_getChars_ba4f3 60 = .ok (.iload 5, 2) := by decide +kernel
theorem dJ6_getChars_ba4f3_62 : decode cJ6_getChars_ba4f3 62 = .ok (.getstatic 87, 3) := by decide +kernel
theorem dJ6_getChars_ba4f3_65 : decode cJ6_getChars_ba4f3 65 = .ok (.iload 4, 2) := by decide +kernel
theorem dJ6_getChars_ba4f3_67 : decode cJ6_getChars_ba4f3 67 = .ok (.baload, 1) := by decide +kernel
theorem dJ6_getChars_ba4f3_68 : decode cJ6_getChars_ba4f3 68 = .ok (.bastore, 1) := by decide +kernel
theorem dJ6_getChars_ba4f3_69 : decode cJ6_getChars_ba4f3 69 = .ok (.goto (-47), 3) := by decide +kernel
theorem dJ6_getChars_ba4f3_7 : decode cJ6_getChars_ba4f3 7 = .ok (.iconst 1, 1) := by decide +kernel
theorem dJ6_getChars_ba4f3_8 : decode cJ6_getChars_ba4f3 8 = .ok (.goto 4, 3) := by decide +kernel
theorem dJ6_getChars_ba4f3_109 : decode cJ6_getChars_ba4f3 109 = .ok (.aload_n 2, 1) := by decide +kernel
theorem dJ6_getChars_ba4f3_110 : decode cJ6_getChars_ba4f3 110 = .ok (.iinc 5 (-1), 3) := by decide +kernel
theorem dJ6_getChars_ba4f3_113 : decode cJ6_getChars_ba4f3 113 = .ok (.iload 5, 2) := by decide +kernel
theorem dJ6_getChars_ba4f3_115 : decode cJ6_getChars_ba4f3 115 = .ok (.bipush 45, 2) := by decide +kernel
theorem dJ6_getChars_ba4f3_117 : decode cJ6_getChars_ba4f3 117 = .ok (.bastore, 1) := by decide +kernel
def lp_J6_getChars_ba4f3_22 (x : Int32) (y : Int32) (ryn : Nat) (ry : Nat → Int32) : Nat → Int32 → Int32 → (Nat → Int32) → Int32 × (Nat → Int32)
  | 0, _, _, _ => (0, ry)
  | n + 1, x0, x5, ryL => (if (-100 : Int32) < x0 then (if (-9 : Int32) ≤ x0 then ((x5 + (-1)), (upd ryL (x5 + (-1)).toNatClampNeg (vp_nar .byte (nI (48 + (-x0).toNatClampNeg % 10))))) else (((x5 + (-1)) + (-1)), (upd (upd ryL (x5 + (-1)).toNatClampNeg (vp_nar .byte (nI (48 + (-x0).toNatClampNeg % 10)))) ((x5 + (-1)) + (-1)).toNatClampNeg (vp_nar .byte (nI (48 + (-x0).toNatClampNeg / 10)))))) else (lp_J6_getChars_ba4f3_22 x y ryn ry n (x0 / (100 : Int32)) ((x5 + (-1)) + (-1)) (upd (upd ryL (x5 + (-1)).toNatClampNeg (vp_nar .byte (nI (48 + (((x0 / (100 : Int32)) * (100 : Int32)) - x0).toNatClampNeg % 10)))) ((x5 + (-1)) + (-1)).toNatClampNeg (vp_nar .byte (nI (48 + (((x0 / (100 : Int32)) * (100 : Int32)) - x0).toNatClampNeg / 10))))))
def okl_lp_J6_getChars_ba4f3_22 (x : Int32) (y : Int32) (ryn : Nat) (ry : Nat → Int32) : Nat → Int32 → Int32 → (Nat → Int32) → Prop
  | 0, _, _, _ => False
  | n + 1, x0, x5, ryL => (if (-100 : Int32) < x0 then (vp_in (-x0) 100 ∧ (vp_in (x5 + (-1)) ryn ∧ (if (-9 : Int32) ≤ x0 then True else (vp_in (-x0) 100 ∧ (vp_in ((x5 + (-1)) + (-1)) ryn ∧ True))))) else (vp_in (((x0 / (100 : Int32)) * (100 : Int32)) - x0) 100 ∧ (vp_in (x5 + (-1)) ryn ∧ (vp_in (((x0 / (100 : Int32)) * (100 : Int32)) - x0) 100 ∧ (vp_in ((x5 + (-1)) + (-1)) ryn ∧ (okl_lp_J6_getChars_ba4f3_22 x y ryn ry n (x0 / (100 : Int32)) ((x5 + (-1)) + (-1)) (upd (upd ryL (x5 + (-1)).toNatClampNeg (vp_nar .byte (nI (48 + (((x0 / (100 : Int32)) * (100 : Int32)) - x0).toNatClampNeg % 10)))) ((x5 + (-1)) + (-1)).toNatClampNeg (vp_nar .byte (nI (48 + (((x0 / (100 : Int32)) * (100 : Int32)) - x0).toNatClampNeg / 10))))))))))
def lp_J6_getChars_ba4f3_22' (x : Int32) (y : Int32) (ryn : Nat) (ry : Nat → Int32) : Nat → Int32 → Int32 → (Nat → Int32) → Int32 × (Nat → Int32)
  | 0, _, _, _ => (0, ry)
  | n + 1, x5, x0, ryL => (if (-100 : Int32) < x0 then (if (-9 : Int32) ≤ x0 then (((x5 + (-1)) + (-1)), (upd (upd ryL (x5 + (-1)).toNatClampNeg (vp_nar .byte (nI (48 + (-x0).toNatClampNeg % 10)))) ((x5 + (-1)) + (-1)).toNatClampNeg (vp_nar .byte (45 : Int32)))) else ((((x5 + (-1)) + (-1)) + (-1)), (upd (upd (upd ryL (x5 + (-1)).toNatClampNeg (vp_nar .byte (nI (48 + (-x0).toNatClampNeg % 10)))) ((x5 + (-1)) + (-1)).toNatClampNeg (vp_nar .byte (nI (48 + (-x0).toNatClampNeg / 10)))) (((x5 + (-1)) + (-1)) + (-1)).toNatClampNeg (vp_nar .byte (45 : Int32))))) else (lp_J6_getChars_ba4f3_22' x y ryn ry n ((x5 + (-1)) + (-1)) (x0 / (100 : Int32)) (upd (upd ryL (x5 + (-1)).toNatClampNeg (vp_nar .byte (nI (48 + (((x0 / (100 : Int32)) * (100 : Int32)) - x0).toNatClampNeg % 10)))) ((x5 + (-1)) + (-1)).toNatClampNeg (vp_nar .byte (nI (48 + (((x0 / (100 : Int32)) * (100 : Int32)) - x0).toNatClampNeg / 10))))))
def okl_lp_J6_getChars_ba4f3_22' (x : Int32) (y : Int32) (ryn : Nat) (ry : Nat → Int32) : Nat → Int32 → Int32 → (Nat → Int32) → Prop
  | 0, _, _, _ => False
  | n + 1, x5, x0, ryL => (if (-100 : Int32) < x0 then (vp_in (-x0) 100 ∧ (vp_in (x5 + (-1)) ryn ∧ (if (-9 : Int32) ≤ x0 then (vp_in ((x5 + (-1)) + (-1)) ryn ∧ True) else (vp_in (-x0) 100 ∧ (vp_in ((x5 + (-1)) + (-1)) ryn ∧ (vp_in (((x5 + (-1)) + (-1)) + (-1)) ryn ∧ True)))))) else (vp_in (((x0 / (100 : Int32)) * (100 : Int32)) - x0) 100 ∧ (vp_in (x5 + (-1)) ryn ∧ (vp_in (((x0 / (100 : Int32)) * (100 : Int32)) - x0) 100 ∧ (vp_in ((x5 + (-1)) + (-1)) ryn ∧ (okl_lp_J6_getChars_ba4f3_22' x y ryn ry n ((x5 + (-1)) + (-1)) (x0 / (100 : Int32)) (upd (upd ryL (x5 + (-1)).toNatClampNeg (vp_nar .byte (nI (48 + (((x0 / (100 : Int32)) * (100 : Int32)) - x0).toNatClampNeg % 10)))) ((x5 + (-1)) + (-1)).toNatClampNeg (vp_nar .byte (nI (48 + (((x0 / (100 : Int32)) * (100 : Int32)) - x0).toNatClampNeg / 10))))))))))
def f_J6_getChars_ba4f3 (x : Int32) (y : Int32) (ryn : Nat) (ry : Nat → Int32) : Int32 × (Nat → Int32) := (if (0 : Int32) ≤ x then (lp_J6_getChars_ba4f3_22 x y ryn ry 6 (-x) y ry) else (lp_J6_getChars_ba4f3_22' x y ryn ry 6 y x ry))
def ok_J6_getChars_ba4f3 (x : Int32) (y : Int32) (ryn : Nat) (ry : Nat → Int32) : Prop := (if (0 : Int32) ≤ x then (okl_lp_J6_getChars_ba4f3_22 x y ryn ry 6 (-x) y ry) else (okl_lp_J6_getChars_ba4f3_22' x y ryn ry 6 y x ry))
set_option maxHeartbeats 4000000 in
set_option maxRecDepth 100000 in
theorem c_J6_getChars_ba4f3 (l : Launch) (G : GG) (ryh : Nat) (sz : Nat) (x : Int32) (y : Int32) (ryn : Nat) (ry : Nat → Int32) (hok : ok_J6_getChars_ba4f3 x y ryn ry) (hyp_ryn : ryn < 2147483648) : wMet l yJ6_getChars_ba4f3 cJ6_getChars_ba4f3 7 (some .int) 1 0 0 G (fl [[(ryh, .inl (G.2.1 2, ryn, .inl ry))]]) [.int x, .int y, .ref ryh] sz (fun u : Int32 × (Nat → Int32) => some (.int u.1)) (fun u : Int32 × (Nat → Int32) => u = f_J6_getChars_ba4f3 x y ryn ry) (fun u : Int32 × (Nat → Int32) => fl [[(ryh, .inl (G.2.1 2, ryn, .inl u.2))]]) := by
  refine w_start (by decide +kernel) (Nat.le_of_ble_eq_true rfl) ?_
  intro p e s m below meth c A hx hb hr hml hts hown hlk hin hP hD hA hK hST ls hl
  have hS : va_S A s.heap s.heap [] := va_S.rf
  have hown : s.vm.findClass RJ6 = some m.cls := hown
  have hl : lv_has ls 7 [(0, .int x), (1, .int y), (2, .ref ryh)] := hl
  have hF : f_J6_getChars_ba4f3 x y ryn ry = (if (0 : Int32) ≤ x then (lp_J6_getChars_ba4f3_22 x y ryn ry 6 (-x) y ry) else (lp_J6_getChars_ba4f3_22' x y ryn ry 6 y x ry)) := rfl
  have hok : (if (0 : Int32) ≤ x then (okl_lp_J6_getChars_ba4f3_22 x y ryn ry 6 (-x) y ry) else (okl_lp_J6_getChars_ba4f3_22' x y ryn ry 6 y x ry)) := hok
  refine lv_iload_n hx hb dJ6_getChars_ba4f3_0 rfl (lv_at hl 1 rfl) ?_
  refine lv_istore (lv' := [(5, .int y), (0, .int x), (1, .int y), (2, .ref ryh)]) hx hb dJ6_getChars_ba4f3_1 hl (by decide) rfl (fun ls hl => ?_)
  refine lv_iload_n hx hb dJ6_getChars_ba4f3_3 rfl (lv_at hl 1 rfl) ?_
  refine lv_if_ge (tgt := 11) hx hb dJ6_getChars_ba4f3_4 (by decide) (fun c_1 => ?_) (fun c_1 => ?_)
  · have hF := hF.trans (if_pos c_1)
    have hok := Eq.mp (if_pos c_1) hok
    refine lv_iconst (v := (0 : Int32)) hx hb dJ6_getChars_ba4f3_11 (by decide) ?_
    refine lv_istore (lv' := [(6, .int (0 : Int32)), (5, .int y), (0, .int x), (1, .int y), (2, .ref ryh)]) hx hb dJ6_getChars_ba4f3_12 hl (by decide) rfl (fun ls hl => ?_)
    refine lv_iload hx hb dJ6_getChars_ba4f3_14 (lv_at hl 0 rfl) ?_
    refine lv_if_ne (tgt := 22) hx hb dJ6_getChars_ba4f3_16 (by decide) (fun c_2 => ?_) (fun c_2 => ?_)
    · exact absurd c_2 (by decide)
    · refine lv_iload_n hx hb dJ6_getChars_ba4f3_19 rfl (lv_at hl 2 rfl) ?_
      refine lv_ineg hx hb dJ6_getChars_ba4f3_20 ?_
      refine lv_istore_n (lv' := [(0, .int (-x)), (6, .int (0 : Int32)), (5, .int y), (1, .int y), (2, .ref ryh)]) hx hb dJ6_getChars_ba4f3_21 rfl hl (by decide) rfl (fun ls hl => ?_)
      have L22 : ∀ (n : Nat) (x0 : Int32) (x5 : Int32) (ryL : Nat → Int32) (H : Heap) (locs : List Loc) (ls : Array Slot), lv_has ls 7 [(0, .int x0), (6, .int (0 : Int32)), (5, .int x5), (1, .int y), (2, .ref ryh)] → va_P G.1 vwCl (fl [[(ryh, .inl (G.2.1 2, ryn, .inl ryL))]]) H → va_D A (fl [[(ryh, .inl (G.2.1 2, ryn, .inl ryL))]]) → va_S A s.heap H locs → (True) → f_J6_getChars_ba4f3 x y ryn ry = lp_J6_getChars_ba4f3_22 x y ryn ry n x0 x5 ryL → okl_lp_J6_getChars_ba4f3_22 x y ryn ry n x0 x5 ryL → W p l e (rmd 1 0 0) s m ([.int x, .int y, .ref ryh] : List Value).toArray below meth c H locs 0 0 (MQ below (wQ (fun u : Int32 × (Nat → Int32) => some (.int u.1)) (fun u : Int32 × (Nat → Int32) => u = f_J6_getChars_ba4f3 x y ryn ry) (fun u : Int32 × (Nat → Int32) => fl [[(ryh, .inl (G.2.1 2, ryn, .inl u.2))]]) G.1 A) ([.int x, .int y, .ref ryh] : List Value).toArray s 0 0 A) (F0 m 22 ls []) := by
        intro n
        induction n with
        | zero => intro x0 x5 ryL H locs ls hl _ _ _ hu hF hok; exact hok.elim
        | succ n ih =>
          intro x0 x5 ryL H locs ls hl hP hD hS hu hF hok
          have hF : f_J6_getChars_ba4f3 x y ryn ry = (if (-100 : Int32) < x0 then (if (-9 : Int32) ≤ x0 then ((x5 + (-1)), (upd ryL (x5 + (-1)).toNatClampNeg (vp_nar .byte (nI (48 + (-x0).toNatClampNeg % 10))))) else (((x5 + (-1)) + (-1)), (upd (upd ryL (x5 + (-1)).toNatClampNeg (vp_nar .byte (nI (48 + (-x0).toNatClampNeg % 10)))) ((x5 + (-1)) + (-1)).toNatClampNeg (vp_nar .byte (nI (48 + (-x0).toNatClampNeg / 10)))))) else (lp_J6_getChars_ba4f3_22 x y ryn ry n (x0 / (100 : Int32)) ((x5 + (-1)) + (-1)) (upd (upd ryL (x5 + (-1)).toNatClampNeg (vp_nar .byte (nI (48 + (((x0 / (100 : Int32)) * (100 : Int32)) - x0).toNatClampNeg % 10)))) ((x5 + (-1)) + (-1)).toNatClampNeg (vp_nar .byte (nI (48 + (((x0 / (100 : Int32)) * (100 : Int32)) - x0).toNatClampNeg / 10)))))) := hF
          have hok : (if (-100 : Int32) < x0 then (vp_in (-x0) 100 ∧ (vp_in (x5 + (-1)) ryn ∧ (if (-9 : Int32) ≤ x0 then True else (vp_in (-x0) 100 ∧ (vp_in ((x5 + (-1)) + (-1)) ryn ∧ True))))) else (vp_in (((x0 / (100 : Int32)) * (100 : Int32)) - x0) 100 ∧ (vp_in (x5 + (-1)) ryn ∧ (vp_in (((x0 / (100 : Int32)) * (100 : Int32)) - x0) 100 ∧ (vp_in ((x5 + (-1)) + (-1)) ryn ∧ (okl_lp_J6_getChars_ba4f3_22 x y ryn ry n (x0 / (100 : Int32)) ((x5 + (-1)) + (-1)) (upd (upd ryL (x5 + (-1)).toNatClampNeg (vp_nar .byte (nI (48 + (((x0 / (100 : Int32)) * (100 : Int32)) - x0).toNatClampNeg % 10)))) ((x5 + (-1)) + (-1)).toNatClampNeg (vp_nar .byte (nI (48 + (((x0 / (100 : Int32)) * (100 : Int32)) - x0).toNatClampNeg / 10)))))))))) := hok
          refine lv_iload_n hx hb dJ6_getChars_ba4f3_22 rfl (lv_at hl 0 rfl) ?_
          refine lv_bipush (v := (-100 : Int32)) hx hb dJ6_getChars_ba4f3_23 (by decide) ?_
          refine lv_icmp_gt (tgt := 72) hx hb dJ6_getChars_ba4f3_25 (by decide) (fun c_3 => ?_) (fun c_3 => ?_)
          · have hF := hF.trans (if_pos c_3)
            have hok := Eq.mp (if_pos c_3) hok
            refine lv_aload_n hx hb dJ6_getChars_ba4f3_72 rfl (lv_at hl 4 rfl) ?_
            refine lv_iinc (v := (x5 + (-1))) (lv' := [(5, .int (x5 + (-1))), (0, .int x0), (6, .int (0 : Int32)), (1, .int y), (2, .ref ryh)]) hx hb dJ6_getChars_ba4f3_73 hl (k := 2) rfl rfl (by decide) rfl (fun ls hl => ?_)
            refine lv_iload hx hb dJ6_getChars_ba4f3_76 (lv_at hl 0 rfl) ?_
            refine va_gets (v := .ref (G.2.2.2 100)) hx hb hST.dig1 hS hown (hts _ u_332) (fun _ h9 => h9) dJ6_getChars_ba4f3_78 ?_
            refine lv_iload_n hx hb dJ6_getChars_ba4f3_81 rfl (lv_at hl 1 rfl) ?_
            refine lv_ineg hx hb dJ6_getChars_ba4f3_82 ?_
            have h_4 := hok.1
            have hok := hok.2
            refine va_tb hx hb hST.digT1 hS h_4 (v := .int (nI (48 + (-x0).toNatClampNeg % 10))) rfl dJ6_getChars_ba4f3_83 ?_
            have h_5 := hok.1
            have hok := hok.2
            refine va_bast hx hb hK hP hD hS 0 2 rfl rfl h_5 dJ6_getChars_ba4f3_84 (fun H locs hP hD hS => ?_)
            have hP : va_P G.1 vwCl (fl [[(ryh, .inl (G.2.1 2, ryn, .inl (upd ryL (x5 + (-1)).toNatClampNeg (vp_nar .byte (nI (48 + (-x0).toNatClampNeg % 10))))))]]) H := hP
            have hD : va_D A (fl [[(ryh, .inl (G.2.1 2, ryn, .inl (upd ryL (x5 + (-1)).toNatClampNeg (vp_nar .byte (nI (48 + (-x0).toNatClampNeg % 10))))))]]) := hD
            refine lv_iload_n hx hb dJ6_getChars_ba4f3_85 rfl (lv_at hl 1 rfl) ?_
            refine lv_bipush (v := (-9 : Int32)) hx hb dJ6_getChars_ba4f3_86 (by decide) ?_
            refine lv_icmp_ge (tgt := 104) hx hb dJ6_getChars_ba4f3_88 (by decide) (fun c_6 => ?_) (fun c_6 => ?_)
            · have hF := hF.trans (if_pos c_6)
              have hok := Eq.mp (if_pos c_6) hok
              refine lv_iload hx hb dJ6_getChars_ba4f3_104 (lv_at hl 2 rfl) ?_
              refine lv_if_eq (tgt := 118) hx hb dJ6_getChars_ba4f3_106 (by decide) (fun c_7 => ?_) (fun c_7 => ?_)
              · refine lv_iload hx hb dJ6_getChars_ba4f3_118 (lv_at hl 0 rfl) ?_
                exact w_ret (u := ((x5 + (-1)), (upd ryL (x5 + (-1)).toNatClampNeg (vp_nar .byte (nI (48 + (-x0).toNatClampNeg % 10)))))) hx hb hr hlk rfl hS rfl hF.symm hP hD (Nat.le_of_ble_eq_true rfl) (Nat.le_of_ble_eq_true rfl) dJ6_getChars_ba4f3_120
              · exact absurd c_7 (by decide)
            · have hF := hF.trans (if_neg c_6)
              have hok := Eq.mp (if_neg c_6) hok
              refine lv_aload_n hx hb dJ6_getChars_ba4f3_91 rfl (lv_at hl 4 rfl) ?_
              refine lv_iinc (v := ((x5 + (-1)) + (-1))) (lv' := [(5, .int ((x5 + (-1)) + (-1))), (0, .int x0), (6, .int (0 : Int32)), (1, .int y), (2, .ref ryh)]) hx hb dJ6_getChars_ba4f3_92 hl (k := 0) rfl rfl (by decide) rfl (fun ls hl => ?_)
              refine lv_iload hx hb dJ6_getChars_ba4f3_95 (lv_at hl 0 rfl) ?_
              refine va_gets (v := .ref (G.2.2.2 101)) hx hb hST.dig2 hS hown (hts _ u_334) (fun _ h9 => h9) dJ6_getChars_ba4f3_97 ?_
              refine lv_iload_n hx hb dJ6_getChars_ba4f3_100 rfl (lv_at hl 1 rfl) ?_
              refine lv_ineg hx hb dJ6_getChars_ba4f3_101 ?_
              have h_8 := hok.1
              have hok := hok.2
              refine va_tb hx hb hST.digT2 hS h_8 (v := .int (nI (48 + (-x0).toNatClampNeg / 10))) rfl dJ6_getChars_ba4f3_102 ?_
              have h_9 := hok.1
              have hok := hok.2
              refine va_bast hx hb hK hP hD hS 0 2 rfl rfl h_9 dJ6_getChars_ba4f3_103 (fun H locs hP hD hS => ?_)
              have hP : va_P G.1 vwCl (fl [[(ryh, .inl (G.2.1 2, ryn, .inl (upd (upd ryL (x5 + (-1)).toNatClampNeg (vp_nar .byte (nI (48 + (-x0).toNatClampNeg % 10)))) ((x5 + (-1)) + (-1)).toNatClampNeg (vp_nar .byte (nI (48 + (-x0).toNatClampNeg / 10))))))]]) H := hP
              have hD : va_D A (fl [[(ryh, .inl (G.2.1 2, ryn, .inl (upd (upd ryL (x5 + (-1)).toNatClampNeg (vp_nar .byte (nI (48 + (-x0).toNatClampNeg % 10)))) ((x5 + (-1)) + (-1)).toNatClampNeg (vp_nar .byte (nI (48 + (-x0).toNatClampNeg / 10))))))]]) := hD
              refine lv_iload hx hb dJ6_getChars_ba4f3_104 (lv_at hl 2 rfl) ?_
              refine lv_if_eq (tgt := 118) hx hb dJ6_getChars_ba4f3_106 (by decide) (fun c_10 => ?_) (fun c_10 => ?_)
              · refine lv_iload hx hb dJ6_getChars_ba4f3_118 (lv_at hl 0 rfl) ?_
                exact w_ret (u := (((x5 + (-1)) + (-1)), (upd (upd ryL (x5 + (-1)).toNatClampNeg (vp_nar .byte (nI (48 + (-x0).toNatClampNeg % 10)))) ((x5 + (-1)) + (-1)).toNatClampNeg (vp_nar .byte (nI (48 + (-x0).toNatClampNeg / 10)))))) hx hb hr hlk rfl hS rfl hF.symm hP hD (Nat.le_of_ble_eq_true rfl) (Nat.le_of_ble_eq_true rfl) dJ6_getChars_ba4f3_120
              · exact absurd c_10 (by decide)
          · have hF := hF.trans (if_neg c_3)
            have hok := Eq.mp (if_neg c_3) hok
            refine lv_iload_n hx hb dJ6_getChars_ba4f3_28 rfl (lv_at hl 0 rfl) ?_
            refine lv_bipush (v := (100 : Int32)) hx hb dJ6_getChars_ba4f3_29 (by decide) ?_
            refine lv_idiv hx hb dJ6_getChars_ba4f3_31 (by decide) ?_
            refine lv_istore_n (lv' := [(3, .int (x0 / (100 : Int32))), (0, .int x0), (6, .int (0 : Int32)), (5, .int x5), (1, .int y), (2, .ref ryh)]) hx hb dJ6_getChars_ba4f3_32 rfl hl (by decide) rfl (fun ls hl => ?_)
            refine lv_iload_n hx hb dJ6_getChars_ba4f3_33 rfl (lv_at hl 0 rfl) ?_
            refine lv_bipush (v := (100 : Int32)) hx hb dJ6_getChars_ba4f3_34 (by decide) ?_
            refine lv_imul hx hb dJ6_getChars_ba4f3_36 ?_
            refine lv_iload_n hx hb dJ6_getChars_ba4f3_37 rfl (lv_at hl 1 rfl) ?_
            refine lv_isub hx hb dJ6_getChars_ba4f3_38 ?_
            refine lv_istore (lv' := [(4, .int (((x0 / (100 : Int32)) * (100 : Int32)) - x0)), (3, .int (x0 / (100 : Int32))), (0, .int x0), (6, .int (0 : Int32)), (5, .int x5), (1, .int y), (2, .ref ryh)]) hx hb dJ6_getChars_ba4f3_39 hl (by decide) rfl (fun ls hl => ?_)
            refine lv_iload_n hx hb dJ6_getChars_ba4f3_41 rfl (lv_at hl 1 rfl) ?_
            refine lv_istore_n (lv' := [(0, .int (x0 / (100 : Int32))), (4, .int (((x0 / (100 : Int32)) * (100 : Int32)) - x0)), (3, .int (x0 / (100 : Int32))), (6, .int (0 : Int32)), (5, .int x5), (1, .int y), (2, .ref ryh)]) hx hb dJ6_getChars_ba4f3_42 rfl hl (by decide) rfl (fun ls hl => ?_)
            refine lv_aload_n hx hb dJ6_getChars_ba4f3_43 rfl (lv_at hl 6 rfl) ?_
            refine lv_iinc (v := (x5 + (-1))) (lv' := [(5, .int (x5 + (-1))), (0, .int (x0 / (100 : Int32))), (4, .int (((x0 / (100 : Int32)) * (100 : Int32)) - x0)), (3, .int (x0 / (100 : Int32))), (6, .int (0 : Int32)), (1, .int y), (2, .ref ryh)]) hx hb dJ6_getChars_ba4f3_44 hl (k := 4) rfl rfl (by decide) rfl (fun ls hl => ?_)
            refine lv_iload hx hb dJ6_getChars_ba4f3_47 (lv_at hl 0 rfl) ?_
            refine va_gets (v := .ref (G.2.2.2 100)) hx hb hST.dig1 hS hown (hts _ u_332) (fun _ h9 => h9) dJ6_getChars_ba4f3_49 ?_
            refine lv_iload hx hb dJ6_getChars_ba4f3_52 (lv_at hl 2 rfl) ?_
            have h_11 := hok.1
            have hok := hok.2
            refine va_tb hx hb hST.digT1 hS h_11 (v := .int (nI (48 + (((x0 / (100 : Int32)) * (100 : Int32)) - x0).toNatClampNeg % 10))) rfl dJ6_getChars_ba4f3_54 ?_
            have h_12 := hok.1
            have hok := hok.2
            refine va_bast hx hb hK hP hD hS 0 2 rfl rfl h_12 dJ6_getChars_ba4f3_55 (fun H locs hP hD hS => ?_)
            have hP : va_P G.1 vwCl (fl [[(ryh, .inl (G.2.1 2, ryn, .inl (upd ryL (x5 + (-1)).toNatClampNeg (vp_nar .byte (nI (48 + (((x0 / (100 : Int32)) * (100 : Int32)) - x0).toNatClampNeg % 10))))))]]) H := hP
            have hD : va_D A (fl [[(ryh, .inl (G.2.1 2, ryn, .inl (upd ryL (x5 + (-1)).toNatClampNeg (vp_nar .byte (nI (48 + (((x0 / (100 : Int32)) * (100 : Int32)) - x0).toNatClampNeg % 10))))))]]) := hD
            refine lv_aload_n hx hb dJ6_getChars_ba4f3_56 rfl (lv_at hl 6 rfl) ?_
            refine lv_iinc (v := ((x5 + (-1)) + (-1))) (lv' := [(5, .int ((x5 + (-1)) + (-1))), (0, .int (x0 / (100 : Int32))), (4, .int (((x0 / (100 : Int32)) * (100 : Int32)) - x0)), (3, .int (x0 / (100 : Int32))), (6, .int (0 : Int32)), (1, .int y), (2, .ref ryh)]) hx hb dJ6_getChars_ba4f3_57 hl (k := 0) rfl rfl (by decide) rfl (fun ls hl => ?_)
            refine lv_iload hx hb dJ6_getChars_ba4f3_60 (lv_at hl 0 rfl) ?_
            refine va_gets (v := .ref (G.2.2.2 101)) hx hb hST.dig2 hS hown (hts _ u_334) (fun _ h9 => h9) dJ6_getChars_ba4f3_62 ?_
            refine lv_iload hx hb dJ6_getChars_ba4f3_65 (lv_at hl 2 rfl) ?_
            have h_13 := hok.1
            have hok := hok.2
            refine va_tb hx hb hST.digT2 hS h_13 (v := .int (nI (48 + (((x0 / (100 : Int32)) * (100 : Int32)) - x0).toNatClampNeg / 10))) rfl dJ6_getChars_ba4f3_67 ?_
            have h_14 := hok.1
            have hok := hok.2
            refine va_bast hx hb hK hP hD hS 0 2 rfl rfl h_14 dJ6_getChars_ba4f3_68 (fun H locs hP hD hS => ?_)
            have hP : va_P G.1 vwCl (fl [[(ryh, .inl (G.2.1 2, ryn, .inl (upd (upd ryL (x5 + (-1)).toNatClampNeg (vp_nar .byte (nI (48 + (((x0 / (100 : Int32)) * (100 : Int32)) - x0).toNatClampNeg % 10)))) ((x5 + (-1)) + (-1)).toNatClampNeg (vp_nar .byte (nI (48 + (((x0 / (100 : Int32)) * (100 : Int32)) - x0).toNatClampNeg / 10))))))]]) H := hP
            have hD : va_D A (fl [[(ryh, .inl (G.2.1 2, ryn, .inl (upd (upd ryL (x5 + (-1)).toNatClampNeg (vp_nar .byte (nI (48 + (((x0 / (100 : Int32)) * (100 : Int32)) - x0).toNatClampNeg % 10)))) ((x5 + (-1)) + (-1)).toNatClampNeg (vp_nar .byte (nI (48 + (((x0 / (100 : Int32)) * (100 : Int32)) - x0).toNatClampNeg / 10))))))]]) := hD
            refine lv_goto (tgt := 22) hx hb dJ6_getChars_ba4f3_69 (by decide) ?_
            exact ih (x0 / (100 : Int32)) ((x5 + (-1)) + (-1)) (upd (upd ryL (x5 + (-1)).toNatClampNeg (vp_nar .byte (nI (48 + (((x0 / (100 : Int32)) * (100 : Int32)) - x0).toNatClampNeg % 10)))) ((x5 + (-1)) + (-1)).toNatClampNeg (vp_nar .byte (nI (48 + (((x0 / (100 : Int32)) * (100 : Int32)) - x0).toNatClampNeg / 10)))) _ _ ls (lv_sub hl [1, 4, 0, 5, 6] rfl) hP hD hS (trivial) hF hok
      exact L22 6 (-x) y ry _ _ ls (lv_sub hl [0, 1, 2, 3, 4] rfl) hP hD hS (trivial) hF hok
  · have hF := hF.trans (if_neg c_1)
    have hok := Eq.mp (if_neg c_1) hok
    refine lv_iconst (v := (1 : Int32)) hx hb dJ6_getChars_ba4f3_7 (by decide) ?_
    refine lv_goto (tgt := 12) hx hb dJ6_getChars_ba4f3_8 (by decide) ?_
    refine lv_istore (lv' := [(6, .int (1 : Int32)), (5, .int y), (0, .int x), (1, .int y), (2, .ref ryh)]) hx hb dJ6_getChars_ba4f3_12 hl (by decide) rfl (fun ls hl => ?_)
    refine lv_iload hx hb dJ6_getChars_ba4f3_14 (lv_at hl 0 rfl) ?_
    refine lv_if_ne (tgt := 22) hx hb dJ6_getChars_ba4f3_16 (by decide) (fun c_15 => ?_) (fun c_15 => ?_)
    · have L22 : ∀ (n : Nat) (x5 : Int32) (x0 : Int32) (ryL : Nat → Int32) (H : Heap) (locs : List Loc) (ls : Array Slot), lv_has ls 7 [(6, .int (1 : Int32)), (5, .int x5), (0, .int x0), (1, .int y), (2, .ref ryh)] → va_P G.1 vwCl (fl [[(ryh, .inl (G.2.1 2, ryn, .inl ryL))]]) H → va_D A (fl [[(ryh, .inl (G.2.1 2, ryn, .inl ryL))]]) → va_S A s.heap H locs → (True) → f_J6_getChars_ba4f3 x y ryn ry = lp_J6_getChars_ba4f3_22' x y ryn ry n x5 x0 ryL → okl_lp_J6_getChars_ba4f3_22' x y ryn ry n x5 x0 ryL → W p l e (rmd 1 0 0) s m ([.int x, .int y, .ref ryh] : List Value).toArray below meth c H locs 0 0 (MQ below (wQ (fun u : Int32 × (Nat → Int32) => some (.int u.1)) (fun u : Int32 × (Nat → Int32) => u = f_J6_getChars_ba4f3 x y ryn ry) (fun u : Int32 × (Nat → Int32) => fl [[(ryh, .inl (G.2.1 2, ryn, .inl u.2))]]) G.1 A) ([.int x, .int y, .ref ryh] : List Value).toArray s 0 0 A) (F0 m 22 ls []) := by
        intro n
        induction n with
        | zero => intro x5 x0 ryL H locs ls hl _ _ _ hu hF hok; exact hok.elim
        | succ n ih =>
          intro x5 x0 ryL H locs ls hl hP hD hS hu hF hok
          have hF : f_J6_getChars_ba4f3 x y ryn ry = (if (-100 : Int32) < x0 then (if (-9 : Int32) ≤ x0 then (((x5 + (-1)) + (-1)), (upd (upd ryL (x5 + (-1)).toNatClampNeg (vp_nar .byte (nI (48 + (-x0).toNatClampNeg % 10)))) ((x5 + (-1)) + (-1)).toNatClampNeg (vp_nar .byte (45 : Int32)))) else ((((x5 + (-1)) + (-1)) + (-1)), (upd (upd (upd ryL (x5 + (-1)).toNatClampNeg (vp_nar .byte (nI (48 + (-x0).toNatClampNeg % 10)))) ((x5 + (-1)) + (-1)).toNatClampNeg (vp_nar .byte (nI (48 + (-x0).toNatClampNeg / 10)))) (((x5 + (-1)) + (-1)) + (-1)).toNatClampNeg (vp_nar .byte (45 : Int32))))) else (lp_J6_getChars_ba4f3_22' x y ryn ry n ((x5 + (-1)) + (-1)) (x0 / (100 : Int32)) (upd (upd ryL (x5 + (-1)).toNatClampNeg (vp_nar .byte (nI (48 + (((x0 / (100 : Int32)) * (100 : Int32)) - x0).toNatClampNeg % 10)))) ((x5 + (-1)) + (-1)).toNatClampNeg (vp_nar .byte (nI (48 + (((x0 / (100 : Int32)) * (100 : Int32)) - x0).toNatClampNeg / 10)))))) := hF
          have hok : (if (-100 : Int32) < x0 then (vp_in (-x0) 100 ∧ (vp_in (x5 + (-1)) ryn ∧ (if (-9 : Int32) ≤ x0 then (vp_in ((x5 + (-1)) + (-1)) ryn ∧ True) else (vp_in (-x0) 100 ∧ (vp_in ((x5 + (-1)) + (-1)) ryn ∧ (vp_in (((x5 + (-1)) + (-1)) + (-1)) ryn ∧ True)))))) else (vp_in (((x0 / (100 : Int32)) * (100 : Int32)) - x0) 100 ∧ (vp_in (x5 + (-1)) ryn ∧ (vp_in (((x0 / (100 : Int32)) * (100 : Int32)) - x0) 100 ∧ (vp_in ((x5 + (-1)) + (-1)) ryn ∧ (okl_lp_J6_getChars_ba4f3_22' x y ryn ry n ((x5 + (-1)) + (-1)) (x0 / (100 : Int32)) (upd (upd ryL (x5 + (-1)).toNatClampNeg (vp_nar .byte (nI (48 + (((x0 / (100 : Int32)) * (100 : Int32)) - x0).toNatClampNeg % 10)))) ((x5 + (-1)) + (-1)).toNatClampNeg (vp_nar .byte (nI (48 + (((x0 / (100 : Int32)) * (100 : Int32)) - x0).toNatClampNeg / 10)))))))))) := hok
          refine lv_iload_n hx hb dJ6_getChars_ba4f3_22 rfl (lv_at hl 2 rfl) ?_
          refine lv_bipush (v := (-100 : Int32)) hx hb dJ6_getChars_ba4f3_23 (by decide) ?_
          refine lv_icmp_gt (tgt := 72) hx hb dJ6_getChars_ba4f3_25 (by decide) (fun c_16 => ?_) (fun c_16 => ?_)
          · have hF := hF.trans (if_pos c_16)
            have hok := Eq.mp (if_pos c_16) hok
            refine lv_aload_n hx hb dJ6_getChars_ba4f3_72 rfl (lv_at hl 4 rfl) ?_
            refine lv_iinc (v := (x5 + (-1))) (lv' := [(5, .int (x5 + (-1))), (6, .int (1 : Int32)), (0, .int x0), (1, .int y), (2, .ref ryh)]) hx hb dJ6_getChars_ba4f3_73 hl (k := 1) rfl rfl (by decide) rfl (fun ls hl => ?_)
            refine lv_iload hx hb dJ6_getChars_ba4f3_76 (lv_at hl 0 rfl) ?_
            refine va_gets (v := .ref (G.2.2.2 100)) hx hb hST.dig1 hS hown (hts _ u_332) (fun _ h9 => h9) dJ6_getChars_ba4f3_78 ?_
            refine lv_iload_n hx hb dJ6_getChars_ba4f3_81 rfl (lv_at hl 2 rfl) ?_
            refine lv_ineg hx hb dJ6_getChars_ba4f3_82 ?_
            have h_17 := hok.1
            have hok := hok.2
            refine va_tb hx hb hST.digT1 hS h_17 (v := .int (nI (48 + (-x0).toNatClampNeg % 10))) rfl dJ6_getChars_ba4f3_83 ?_
            have h_18 := hok.1
            have hok := hok.2
            refine va_bast hx hb hK hP hD hS 0 2 rfl rfl h_18 dJ6_getChars_ba4f3_84 (fun H locs hP hD hS => ?_)
            have hP : va_P G.1 vwCl (fl [[(ryh, .inl (G.2.1 2, ryn, .inl (upd ryL (x5 + (-1)).toNatClampNeg (vp_nar .byte (nI (48 + (-x0).toNatClampNeg % 10))))))]]) H := hP
            have hD : va_D A (fl [[(ryh, .inl (G.2.1 2, ryn, .inl (upd ryL (x5 + (-1)).toNatClampNeg (vp_nar .byte (nI (48 + (-x0).toNatClampNeg % 10))))))]]) := hD
            refine lv_iload_n hx hb dJ6_getChars_ba4f3_85 rfl (lv_at hl 2 rfl) ?_
            refine lv_bipush (v := (-9 : Int32)) hx hb dJ6_getChars_ba4f3_86 (by decide) ?_
            refine lv_icmp_ge (tgt := 104) hx hb dJ6_getChars_ba4f3_88 (by decide) (fun c_19 => ?_) (fun c_19 => ?_)
            · have hF := hF.trans (if_pos c_19)
              have hok := Eq.mp (if_pos c_19) hok
              refine lv_iload hx hb dJ6_getChars_ba4f3_104 (lv_at hl 1 rfl) ?_
              refine lv_if_eq (tgt := 118) hx hb dJ6_getChars_ba4f3_106 (by decide) (fun c_20 => ?_) (fun c_20 => ?_)
              · exact absurd c_20 (by decide)
              · refine lv_aload_n hx hb dJ6_getChars_ba4f3_109 rfl (lv_at hl 4 rfl) ?_
                refine lv_iinc (v := ((x5 + (-1)) + (-1))) (lv' := [(5, .int ((x5 + (-1)) + (-1))), (6, .int (1 : Int32)), (0, .int x0), (1, .int y), (2, .ref ryh)]) hx hb dJ6_getChars_ba4f3_110 hl (k := 0) rfl rfl (by decide) rfl (fun ls hl => ?_)
                refine lv_iload hx hb dJ6_getChars_ba4f3_113 (lv_at hl 0 rfl) ?_
                refine lv_bipush (v := (45 : Int32)) hx hb dJ6_getChars_ba4f3_115 (by decide) ?_
                have h_21 := hok.1
                have hok := hok.2
                refine va_bast hx hb hK hP hD hS 0 2 rfl rfl h_21 dJ6_getChars_ba4f3_117 (fun H locs hP hD hS => ?_)
                have hP : va_P G.1 vwCl (fl [[(ryh, .inl (G.2.1 2, ryn, .inl (upd (upd ryL (x5 + (-1)).toNatClampNeg (vp_nar .byte (nI (48 + (-x0).toNatClampNeg % 10)))) ((x5 + (-1)) + (-1)).toNatClampNeg (vp_nar .byte (45 : Int32)))))]]) H := hP
                have hD : va_D A (fl [[(ryh, .inl (G.2.1 2, ryn, .inl (upd (upd ryL (x5 + (-1)).toNatClampNeg (vp_nar .byte (nI (48 + (-x0).toNatClampNeg % 10)))) ((x5 + (-1)) + (-1)).toNatClampNeg (vp_nar .byte (45 : Int32)))))]]) := hD
                refine lv_iload hx hb dJ6_getChars_ba4f3_118 (lv_at hl 0 rfl) ?_
                exact w_ret (u := (((x5 + (-1)) + (-1)), (upd (upd ryL (x5 + (-1)).toNatClampNeg (vp_nar .byte (nI (48 + (-x0).toNatClampNeg % 10)))) ((x5 + (-1)) + (-1)).toNatClampNeg (vp_nar .byte (45 : Int32))))) hx hb hr hlk rfl hS rfl hF.symm hP hD (Nat.le_of_ble_eq_true rfl) (Nat.le_of_ble_eq_true rfl) dJ6_getChars_ba4f3_120
            · have hF := hF.trans (if_neg c_19)
              have hok := Eq.mp (if_neg c_19) hok
              refine lv_aload_n hx hb dJ6_getChars_ba4f3_91 rfl (lv_at hl 4 rfl) ?_
              refine lv_iinc (v := ((x5 + (-1)) + (-1))) (lv' := [(5, .int ((x5 + (-1)) + (-1))), (6, .int (1 : Int32)), (0, .int x0), (1, .int y), (2, .ref ryh)]) hx hb dJ6_getChars_ba4f3_92 hl (k := 0) rfl rfl (by decide) rfl (fun ls hl => ?_)
              refine lv_iload hx hb dJ6_getChars_ba4f3_95 (lv_at hl 0 rfl) ?_
              refine va_gets (v := .ref (G.2.2.2 101)) hx hb hST.dig2 hS hown (hts _ u_334) (fun _ h9 => h9) dJ6_getChars_ba4f3_97 ?_
              refine lv_iload_n hx hb dJ6_getChars_ba4f3_100 rfl (lv_at hl 2 rfl) ?_
              refine lv_ineg hx hb dJ6_getChars_ba4f3_101 ?_
              have h_22 := hok.1
              have hok := hok.2
              refine va_tb hx hb hST.digT2 hS h_22 (v := .int (nI (48 + (-x0).toNatClampNeg / 10))) rfl dJ6_getChars_ba4f3_102 ?_
              have h_23 := hok.1
              have hok := hok.2
              refine va_bast hx hb hK hP hD hS 0 2 rfl rfl h_23 dJ6_getChars_ba4f3_103 (fun H locs hP hD hS => ?_)
              have hP : va_P G.1 vwCl (fl [[(ryh, .inl (G.2.1 2, ryn, .inl (upd (upd ryL (x5 + (-1)).toNatClampNeg (vp_nar .byte (nI (48 + (-x0).toNatClampNeg % 10)))) ((x5 + (-1)) + (-1)).toNatClampNeg (vp_nar .byte (nI (48 + (-x0).toNatClampNeg / 10))))))]]) H := hP
              have hD : va_D A (fl [[(ryh, .inl (G.2.1 2, ryn, .inl (upd (upd ryL (x5 + (-1)).toNatClampNeg (vp_nar .byte (nI (48 + (-x0).toNatClampNeg % 10)))) ((x5 + (-1)) + (-1)).toNatClampNeg (vp_nar .byte (nI (48 + (-x0).toNatClampNeg / 10))))))]]) := hD
              refine lv_iload hx hb dJ6_getChars_ba4f3_104 (lv_at hl 1 rfl) ?_
              refine lv_if_eq (tgt := 118) hx hb dJ6_getChars_ba4f3_106 (by decide) (fun c_24 => ?_) (fun c_24 => ?_)
              · exact absurd c_24 (by decide)
              · refine lv_aload_n hx hb dJ6_getChars_ba4f3_109 rfl (lv_at hl 4 rfl) ?_
                refine lv_iinc (v := (((x5 + (-1)) + (-1)) + (-1))) (lv' := [(5, .int (((x5 + (-1)) + (-1)) + (-1))), (6, .int (1 : Int32)), (0, .int x0), (1, .int y), (2, .ref ryh)]) hx hb dJ6_getChars_ba4f3_110 hl (k := 0) rfl rfl (by decide) rfl (fun ls hl => ?_)
                refine lv_iload hx hb dJ6_getChars_ba4f3_113 (lv_at hl 0 rfl) ?_
                refine lv_bipush (v := (45 : Int32)) hx hb dJ6_getChars_ba4f3_115 (by decide) ?_
                have h_25 := hok.1
                have hok := hok.2
                refine va_bast hx hb hK hP hD hS 0 2 rfl rfl h_25 dJ6_getChars_ba4f3_117 (fun H locs hP hD hS => ?_)
                have hP : va_P G.1 vwCl (fl [[(ryh, .inl (G.2.1 2, ryn, .inl (upd (upd (upd ryL (x5 + (-1)).toNatClampNeg (vp_nar .byte (nI (48 + (-x0).toNatClampNeg % 10)))) ((x5 + (-1)) + (-1)).toNatClampNeg (vp_nar .byte (nI (48 + (-x0).toNatClampNeg / 10)))) (((x5 + (-1)) + (-1)) + (-1)).toNatClampNeg (vp_nar .byte (45 : Int32)))))]]) H := hP
                have hD : va_D A (fl [[(ryh, .inl (G.2.1 2, ryn, .inl (upd (upd (upd ryL (x5 + (-1)).toNatClampNeg (vp_nar .byte (nI (48 + (-x0).toNatClampNeg % 10)))) ((x5 + (-1)) + (-1)).toNatClampNeg (vp_nar .byte (nI (48 + (-x0).toNatClampNeg / 10)))) (((x5 + (-1)) + (-1)) + (-1)).toNatClampNeg (vp_nar .byte (45 : Int32)))))]]) := hD
                refine lv_iload hx hb dJ6_getChars_ba4f3_118 (lv_at hl 0 rfl) ?_
                exact w_ret (u := ((((x5 + (-1)) + (-1)) + (-1)), (upd (upd (upd ryL (x5 + (-1)).toNatClampNeg (vp_nar .byte (nI (48 + (-x0).toNatClampNeg % 10)))) ((x5 + (-1)) + (-1)).toNatClampNeg (vp_nar .byte (nI (48 + (-x0).toNatClampNeg / 10)))) (((x5 + (-1)) + (-1)) + (-1)).toNatClampNeg (vp_nar .byte (45 : Int32))))) hx hb hr hlk rfl hS rfl hF.symm hP hD (Nat.le_of_ble_eq_true rfl) (Nat.le_of_ble_eq_true rfl) dJ6_getChars_ba4f3_120
          · have hF := hF.trans (if_neg c_16)
            have hok := Eq.mp (if_neg c_16) hok
            refine lv_iload_n hx hb dJ6_getChars_ba4f3_28 rfl (lv_at hl 2 rfl) ?_
            refine lv_bipush (v := (100 : Int32)) hx hb dJ6_getChars_ba4f3_29 (by decide) ?_
            refine lv_idiv hx hb dJ6_getChars_ba4f3_31 (by decide) ?_
            refine lv_istore_n (lv' := [(3, .int (x0 / (100 : Int32))), (6, .int (1 : Int32)), (5, .int x5), (0, .int x0), (1, .int y), (2, .ref ryh)]) hx hb dJ6_getChars_ba4f3_32 rfl hl (by decide) rfl (fun ls hl => ?_)
            refine lv_iload_n hx hb dJ6_getChars_ba4f3_33 rfl (lv_at hl 0 rfl) ?_
            refine lv_bipush (v := (100 : Int32)) hx hb dJ6_getChars_ba4f3_34 (by decide) ?_
            refine lv_imul hx hb dJ6_getChars_ba4f3_36 ?_
            refine lv_iload_n hx hb dJ6_getChars_ba4f3_37 rfl (lv_at hl 3 rfl) ?_
            refine lv_isub hx hb dJ6_getChars_ba4f3_38 ?_
            refine lv_istore (lv' := [(4, .int (((x0 / (100 : Int32)) * (100 : Int32)) - x0)), (3, .int (x0 / (100 : Int32))), (6, .int (1 : Int32)), (5, .int x5), (0, .int x0), (1, .int y), (2, .ref ryh)]) hx hb dJ6_getChars_ba4f3_39 hl (by decide) rfl (fun ls hl => ?_)
            refine lv_iload_n hx hb dJ6_getChars_ba4f3_41 rfl (lv_at hl 1 rfl) ?_
            refine lv_istore_n (lv' := [(0, .int (x0 / (100 : Int32))), (4, .int (((x0 / (100 : Int32)) * (100 : Int32)) - x0)), (3, .int (x0 / (100 : Int32))), (6, .int (1 : Int32)), (5, .int x5), (1, .int y), (2, .ref ryh)]) hx hb dJ6_getChars_ba4f3_42 rfl hl (by decide) rfl (fun ls hl => ?_)
            refine lv_aload_n hx hb dJ6_getChars_ba4f3_43 rfl (lv_at hl 6 rfl) ?_
            refine lv_iinc (v := (x5 + (-1))) (lv' := [(5, .int (x5 + (-1))), (0, .int (x0 / (100 : Int32))), (4, .int (((x0 / (100 : Int32)) * (100 : Int32)) - x0)), (3, .int (x0 / (100 : Int32))), (6, .int (1 : Int32)), (1, .int y), (2, .ref ryh)]) hx hb dJ6_getChars_ba4f3_44 hl (k := 4) rfl rfl (by decide) rfl (fun ls hl => ?_)
            refine lv_iload hx hb dJ6_getChars_ba4f3_47 (lv_at hl 0 rfl) ?_
            refine va_gets (v := .ref (G.2.2.2 100)) hx hb hST.dig1 hS hown (hts _ u_332) (fun _ h9 => h9) dJ6_getChars_ba4f3_49 ?_
            refine lv_iload hx hb dJ6_getChars_ba4f3_52 (lv_at hl 2 rfl) ?_
            have h_26 := hok.1
            have hok := hok.2
            refine va_tb hx hb hST.digT1 hS h_26 (v := .int (nI (48 + (((x0 / (100 : Int32)) * (100 : Int32)) - x0).toNatClampNeg % 10))) rfl dJ6_getChars_ba4f3_54 ?_
            have h_27 := hok.1
            have hok := hok.2
            refine va_bast hx hb hK hP hD hS 0 2 rfl rfl h_27 dJ6_getChars_ba4f3_55 (fun H locs hP hD hS => ?_)
            have hP : va_P G.1 vwCl (fl [[(ryh, .inl (G.2.1 2, ryn, .inl (upd ryL (x5 + (-1)).toNatClampNeg (vp_nar .byte (nI (48 + (((x0 / (100 : Int32)) * (100 : Int32)) - x0).toNatClampNeg % 10))))))]]) H := hP
            have hD : va_D A (fl [[(ryh, .inl (G.2.1 2, ryn, .inl (upd ryL (x5 + (-1)).toNatClampNeg (vp_nar .byte (nI (48 + (((x0 / (100 : Int32)) * (100 : Int32)) - x0).toNatClampNeg % 10))))))]]) := hD
            refine lv_aload_n hx hb dJ6_getChars_ba4f3_56 rfl (lv_at hl 6 rfl) ?_
            refine lv_iinc (v := ((x5 + (-1)) + (-1))) (lv' := [(5, .int ((x5 + (-1)) + (-1))), (0, .int (x0 / (100 : Int32))), (4, .int (((x0 / (100 : Int32)) * (100 : Int32)) - x0)), (3, .int (x0 / (100 : Int32))), (6, .int (1 : Int32)), (1, .int y), (2, .ref ryh)]) hx hb dJ6_getChars_ba4f3_57 hl (k := 0) rfl rfl (by decide) rfl (fun ls hl => ?_)
            refine lv_iload hx hb dJ6_getChars_ba4f3_60 (lv_at hl 0 rfl) ?_
            refine va_gets (v := .ref (G.2.2.2 101)) hx hb hST.dig2 hS hown (hts _ u_334) (fun _ h9 => h9) dJ6_getChars_ba4f3_62 ?_
            refine lv_iload hx hb dJ6_getChars_ba4f3_65 (lv_at hl 2 rfl) ?_
            have h_28 := hok.1
            have hok := hok.2
            refine va_tb hx hb hST.digT2 hS h_28 (v := .int (nI (48 + (((x0 / (100 : Int32)) * (100 : Int32)) - x0).toNatClampNeg / 10))) rfl dJ6_getChars_ba4f3_67 ?_
            have h_29 := hok.1
            have hok := hok.2
            refine va_bast hx hb hK hP hD hS 0 2 rfl rfl h_29 dJ6_getChars_ba4f3_68 (fun H locs hP hD hS => ?_)
            have hP : va_P G.1 vwCl (fl [[(ryh, .inl (G.2.1 2, ryn, .inl (upd (upd ryL (x5 + (-1)).toNatClampNeg (vp_nar .byte (nI (48 + (((x0 / (100 : Int32)) * (100 : Int32)) - x0).toNatClampNeg % 10)))) ((x5 + (-1)) + (-1)).toNatClampNeg (vp_nar .byte (nI (48 + (((x0 / (100 : Int32)) * (100 : Int32)) - x0).toNatClampNeg / 10))))))]]) H := hP
            have hD : va_D A (fl [[(ryh, .inl (G.2.1 2, ryn, .inl (upd (upd ryL (x5 + (-1)).toNatClampNeg (vp_nar .byte (nI (48 + (((x0 / (100 : Int32)) * (100 : Int32)) - x0).toNatClampNeg % 10)))) ((x5 + (-1)) + (-1)).toNatClampNeg (vp_nar .byte (nI (48 + (((x0 / (100 : Int32)) * (100 : Int32)) - x0).toNatClampNeg / 10))))))]]) := hD
            refine lv_goto (tgt := 22) hx hb dJ6_getChars_ba4f3_69 (by decide) ?_
            exact ih ((x5 + (-1)) + (-1)) (x0 / (100 : Int32)) (upd (upd ryL (x5 + (-1)).toNatClampNeg (vp_nar .byte (nI (48 + (((x0 / (100 : Int32)) * (100 : Int32)) - x0).toNatClampNeg % 10)))) ((x5 + (-1)) + (-1)).toNatClampNeg (vp_nar .byte (nI (48 + (((x0 / (100 : Int32)) * (100 : Int32)) - x0).toNatClampNeg / 10)))) _ _ ls (lv_sub hl [4, 0, 1, 5, 6] rfl) hP hD hS (trivial) hF hok
      exact L22 6 y x ry _ _ ls (lv_sub hl [0, 1, 2, 3, 4] rfl) hP hD hS (trivial) hF hok
    · exact absurd c_15 (by decide)
theorem dJ5_append_c97b9_0 : decode cJ5_append_c97b9 0 = .ok (.aload_n 0, 1) := by decide +kernel
theorem dJ5_append_c97b9_1 : decode cJ5_append_c97b9 1 = .ok (.getfield 79, 3) := by decide +kernel
theorem dJ5_append_c97b9_4 : decode cJ5_append_c97b9 4 = .ok (.istore_n 2, 1) := by decide +kernel
theorem dJ5_append_c97b9_5 : decode cJ5_append_c97b9 5 = .ok (.iload_n 2, 1) := by decide +kernel
theorem dJ5_append_c97b9_6 : decode cJ5_append_c97b9 6 = .ok (.iload_n 1, 1) := by decide +kernel
theorem dJ5_append_c97b9_7 : decode cJ5_append_c97b9 7 = .ok (.invokestatic 245, 3) := by decide +kernel
theorem u_326 : Cond.methodLink RJ5 245 yJ6_stringSize_0f7a4 ∈ UW := uw 326 (by decide +kernel) rfl
theorem u_327 : Cond.static yJ6_stringSize_0f7a4 ∈ UW := uw 327 (by decide +kernel) rfl
theorem u_328 : Cond.code yJ6_stringSize_0f7a4 cJ6_stringSize_0f7a4 4 (some .int) ∈ UW := uw 328 (by decide +kernel) rfl
theorem g_J5_245 : GoodIn UW (va_wsS RJ5 245 yJ6_stringSize_0f7a4 (wsU yJ6_stringSize_0f7a4 cJ6_stringSize_0f7a4 4 (some .int))) := gS u_326 u_327 u_47 u_328
theorem hds_J6_stringSize_0f7a4 : yJ6_stringSize_0f7a4.cls ≠ "java/lang/invoke/MethodHandle" ∧ yJ6_stringSize_0f7a4.cls ≠ "java/lang/invoke/VarHandle" ∧ (parseMethodDescriptor yJ6_stringSize_0f7a4.desc).map (fun d => d.parameters.length) = some 1 := by decide +kernel
theorem dJ5_append_c97b9_10 : decode cJ5_append_c97b9 10 = .ok (.iadd, 1) := by decide +kernel
theorem dJ5_append_c97b9_11 : decode cJ5_append_c97b9 11 = .ok (.istore_n 3, 1) := by decide +kernel
theorem dJ5_append_c97b9_12 : decode cJ5_append_c97b9 12 = .ok (.aload_n 0, 1) := by decide +kernel
theorem dJ5_append_c97b9_13 : decode cJ5_append_c97b9 13 = .ok (.iload_n 3, 1) := by decide +kernel
theorem dJ5_append_c97b9_14 : decode cJ5_append_c97b9 14 = .ok (.invokevirtual 100, 3) := by decide +kernel
theorem dJ5_append_c97b9_17 : decode cJ5_append_c97b9 17 = .ok (.aload_n 0, 1) := by decide +kernel
theorem dJ5_append_c97b9_18 : decode cJ5_append_c97b9 18 = .ok (.invokevirtual 83, 3) := by decide +kernel
theorem dJ5_append_c97b9_21 : decode cJ5_append_c97b9 21 = .ok (.ifCond .eq 16, 3) := by decide +kernel
theorem dJ5_append_c97b9_24 : decode cJ5_append_c97b9 24 = .ok (.iload_n 1, 1) := by decide +kernel
theorem dJ5_append_c97b9_25 : decode cJ5_append_c97b9 25 = .ok (.iload_n 3, 1) := by decide +kernel
theorem dJ5_append_c97b9_26 : decode cJ5_append_c97b9 26 = .ok (.aload_n 0, 1) := by decide +kernel
theorem dJ5_append_c97b9_27 : decode cJ5_append_c97b9 27 = .ok (.getfield 15, 3) := by decide +kernel
theorem dJ5_append_c97b9_30 : decode cJ5_append_c97b9 30 = .ok (.invokestatic 248, 3) := by decide +kernel
theorem u_329 : Cond.methodLink RJ5 248 yJ6_getChars_ba4f3 ∈ UW := uw 329 (by decide +kernel) rfl
theorem u_330 : Cond.static yJ6_getChars_ba4f3 ∈ UW := uw 330 (by decide +kernel) rfl
theorem u_331 : Cond.code yJ6_getChars_ba4f3 cJ6_getChars_ba4f3 7 (some .int) ∈ UW := uw 331 (by decide +kernel) rfl
theorem g_J5_248 : GoodIn UW (va_wsS RJ5 248 yJ6_getChars_ba4f3 (wsU yJ6_getChars_ba4f3 cJ6_getChars_ba4f3 7 (some .int))) := gS u_329 u_330 u_47 u_331
theorem hds_J6_getChars_ba4f3 : yJ6_getChars_ba4f3.cls ≠ "java/lang/invoke/MethodHandle" ∧ yJ6_getChars_ba4f3.cls ≠ "java/lang/invoke/VarHandle" ∧ (parseMethodDescriptor yJ6_getChars_ba4f3.desc).map (fun d => d.parameters.length) = some 3 := by decide +kernel
theorem dJ5_append_c97b9_33 : decode cJ5_append_c97b9 33 = .ok (.pop, 1) := by decide +kernel
theorem dJ5_append_c97b9_34 : decode cJ5_append_c97b9 34 = .ok (.goto 14, 3) := by decide +kernel
theorem dJ5_append_c97b9_48 : decode cJ5_append_c97b9 48 = .ok (.aload_n 0, 1) := by decide +kernel
theorem dJ5_append_c97b9_49 : decode cJ5_append_c97b9 49 = .ok (.iload_n 3, 1) := by decide +kernel
theorem dJ5_append_c97b9_50 : decode cJ5_append_c97b9 50 = .ok (.putfield 79, 3) := by decide +kernel
theorem dJ5_append_c97b9_53 : decode cJ5_append_c97b9 53 = .ok (.aload_n 0, 1) := by decide +kernel
theorem dJ5_append_c97b9_54 : decode cJ5_append_c97b9 54 = .ok (.areturn, 1) := by decide +kernel
def f_J5_append_c97b9 (sb : SbV) (x : Int32) : SbV := (let y_3 : Int32 := (sb.2.2.2 + (f_J6_stringSize_0f7a4 x)); (let u_6 : SbV := (f_J5_ensureCapacityInternal_d00df sb y_3); (let u_12 : Int32 × (Nat → Int32) := (f_J6_getChars_ba4f3 x y_3 u_6.1 u_6.2.1); (u_6.1, u_12.2, u_6.2.2.1, y_3))))
def ok_J5_append_c97b9 (sb : SbV) (x : Int32) : Prop := (ok_J6_stringSize_0f7a4 x ∧ (let y_3 : Int32 := (sb.2.2.2 + (f_J6_stringSize_0f7a4 x)); (ok_J5_ensureCapacityInternal_d00df sb y_3 ∧ (let u_6 : SbV := (f_J5_ensureCapacityInternal_d00df sb y_3); (ok_J6_getChars_ba4f3 x y_3 u_6.1 u_6.2.1 ∧ (u_6.1 < 2147483648 ∧ True))))))
set_option maxHeartbeats 4000000 in
set_option maxRecDepth 100000 in
theorem c_J5_append_c97b9 (l : Launch) (G : GG) (sbh0 : Nat) (sbh1 : Nat) (sz : Nat) (sb : SbV) (x : Int32) (hok : ok_J5_append_c97b9 sb x) : wMet l yJ5_append_c97b9 cJ5_append_c97b9 4 (some (.object "java/lang/AbstractStringBuilder")) 5 1 200 G (fl [[(sbh0, .inr (1, [.ref sbh1, .int (0 : Int32), .int sb.2.2.1, .int sb.2.2.2]))], [(sbh1, .inl (G.2.1 2, sb.1, .inl sb.2.1))]]) [.ref sbh0, .int x] sz (fun u : Nat × SbV => some (.ref sbh0)) (fun u : Nat × SbV => u.2 = f_J5_append_c97b9 sb x) (fun u : Nat × SbV => fl [[(sbh0, .inr (1, [.ref u.1, .int (0 : Int32), .int u.2.2.2.1, .int u.2.2.2.2]))], [(u.1, .inl (G.2.1 2, u.2.1, .inl u.2.2.1))]]) := by
  refine w_start (by decide +kernel) (Nat.le_of_ble_eq_true rfl) ?_
  intro p e s m below meth c A hx hb hr hml hts hown hlk hin hP hD hA hK hST ls hl
  have hS : va_S A s.heap s.heap [] := va_S.rf
  have hown : s.vm.findClass RJ5 = some m.cls := hown
  have hl : lv_has ls 4 [(0, .ref sbh0), (1, .int x)] := hl
  have hF : f_J5_append_c97b9 sb x = (let y_3 : Int32 := (sb.2.2.2 + (f_J6_stringSize_0f7a4 x)); (let u_6 : SbV := (f_J5_ensureCapacityInternal_d00df sb y_3); (let u_12 : Int32 × (Nat → Int32) := (f_J6_getChars_ba4f3 x y_3 u_6.1 u_6.2.1); (u_6.1, u_12.2, u_6.2.2.1, y_3)))) := rfl
  have hok : (ok_J6_stringSize_0f7a4 x ∧ (let y_3 : Int32 := (sb.2.2.2 + (f_J6_stringSize_0f7a4 x)); (ok_J5_ensureCapacityInternal_d00df sb y_3 ∧ (let u_6 : SbV := (f_J5_ensureCapacityInternal_d00df sb y_3); (ok_J6_getChars_ba4f3 x y_3 u_6.1 u_6.2.1 ∧ (u_6.1 < 2147483648 ∧ True)))))) := hok
  refine lv_aload_n hx hb dJ5_append_c97b9_0 rfl (lv_at hl 0 rfl) ?_
  refine va_get (D := G.1) (ci := 1) (v := .int sb.2.2.2) (C := RJ4) (T := TJ4) (N := 4) hx hb hts uws_J4 hown hK hP 0 rfl rfl 3 (by decide) (hts _ u_189) (fun _ h9 => h9) rfl dJ5_append_c97b9_1 ?_
  refine lv_istore_n (lv' := [(2, .int sb.2.2.2), (0, .ref sbh0), (1, .int x)]) hx hb dJ5_append_c97b9_4 rfl hl (by decide) rfl (fun ls hl => ?_)
  refine lv_iload_n hx hb dJ5_append_c97b9_5 rfl (lv_at hl 0 rfl) ?_
  refine lv_iload_n hx hb dJ5_append_c97b9_6 rfl (lv_at hl 2 rfl) ?_
  have k_1 := hok.1
  have hok := hok.2
  refine r_S (own := RJ5) (v := (some (.int (f_J6_stringSize_0f7a4 x)))) (st1 := [.int (f_J6_stringSize_0f7a4 x), .int sb.2.2.2]) (As := [.int x]) (rest := [.int sb.2.2.2]) (c_J6_stringSize_0f7a4 l G x k_1) ⟨hx, hb, hml, hown, hts⟩ g_J5_245 hds_J6_stringSize_0f7a4 hK hST hS hP [] rfl ⟨Nat.le_of_ble_eq_true rfl, Nat.le_of_ble_eq_true rfl⟩ ⟨Nat.le_of_ble_eq_true rfl, Nat.le_of_ble_eq_true rfl⟩ rfl hl.1 rfl (Nat.le_of_ble_eq_true rfl) dJ5_append_c97b9_7 rfl (fun b_2 => ?_)
  refine lv_iadd hx hb dJ5_append_c97b9_10 ?_
  refine lv_topi (fun y_3 ey_3 => ?_)
  have hF : f_J5_append_c97b9 sb x = (let u_6 : SbV := (f_J5_ensureCapacityInternal_d00df sb y_3); (let u_12 : Int32 × (Nat → Int32) := (f_J6_getChars_ba4f3 x y_3 u_6.1 u_6.2.1); (u_6.1, u_12.2, u_6.2.2.1, y_3))) := by subst ey_3; exact hF
  have hok : (ok_J5_ensureCapacityInternal_d00df sb y_3 ∧ (let u_6 : SbV := (f_J5_ensureCapacityInternal_d00df sb y_3); (ok_J6_getChars_ba4f3 x y_3 u_6.1 u_6.2.1 ∧ (u_6.1 < 2147483648 ∧ True)))) := by subst ey_3; exact hok
  refine lv_istore_n (lv' := [(3, .int y_3), (2, .int sb.2.2.2), (0, .ref sbh0), (1, .int x)]) hx hb dJ5_append_c97b9_11 rfl hl (by decide) rfl (fun ls hl => ?_)
  refine lv_aload_n hx hb dJ5_append_c97b9_12 rfl (lv_at hl 2 rfl) ?_
  refine lv_iload_n hx hb dJ5_append_c97b9_13 rfl (lv_at hl 0 rfl) ?_
  have k_4 := hok.1
  have hok := hok.2
  refine w_P (own := RJ5) (cs := [[(sbh0, .inr (1, [.ref sbh1, .int (0 : Int32), .int sb.2.2.1, .int sb.2.2.2]))], [(sbh1, .inl (G.2.1 2, sb.1, .inl sb.2.1))]]) (rs := []) (As := [.int y_3]) (rest := []) (c_J5_ensureCapacityInternal_d00df l G sbh0 sbh1 s.heap.size sb y_3 k_4) ⟨hx, hb, hml, hown, hts⟩ u_210 u_213 u_29 u_212 gP_J5_100 u_1592 rfl hds_J5_ensureCapacityInternal_d00df hK hST hS hP hD hA [0, 1] [] rfl rfl rfl (va_recv hK hP (ci := 1) (q0 := 0) rfl rfl) ⟨Nat.le_of_ble_eq_true rfl, Nat.le_of_ble_eq_true rfl⟩ ⟨Nat.le_of_ble_eq_true rfl, Nat.le_of_ble_eq_true rfl⟩ rfl hl.1 rfl (Nat.le_of_ble_eq_true rfl) dJ5_append_c97b9_14 (fun u_6 H locs huu hP hD hS => ?_)
  obtain ⟨qu_6, u_6⟩ := u_6
  have eu_6 : u_6 = (f_J5_ensureCapacityInternal_d00df sb y_3) := huu
  have hP : va_P G.1 vwCl (fl [[(sbh0, .inr (1, [.ref qu_6, .int (0 : Int32), .int u_6.2.2.1, .int u_6.2.2.2]))], [(qu_6, .inl (G.2.1 2, u_6.1, .inl u_6.2.1))]]) H := hP
  have hD : va_D A (fl [[(sbh0, .inr (1, [.ref qu_6, .int (0 : Int32), .int u_6.2.2.1, .int u_6.2.2.2]))], [(qu_6, .inl (G.2.1 2, u_6.1, .inl u_6.2.1))]]) := hD
  refine W.eq (g2 := F0 m 17 ls []) rfl ?_
  have hF : f_J5_append_c97b9 sb x = (let u_12 : Int32 × (Nat → Int32) := (f_J6_getChars_ba4f3 x y_3 u_6.1 u_6.2.1); (u_6.1, u_12.2, u_6.2.2.1, y_3)) := by subst eu_6; exact hF
  have hok : (ok_J6_getChars_ba4f3 x y_3 u_6.1 u_6.2.1 ∧ (u_6.1 < 2147483648 ∧ True)) := by subst eu_6; exact hok
  refine lv_aload_n hx hb dJ5_append_c97b9_17 rfl (lv_at hl 2 rfl) ?_
  refine r_U (own := RJ5) (v := (some (.int (1 : Int32)))) (st1 := [.int (1 : Int32)]) (As := []) (rest := []) (c_J5_isLatin1_aae02 l G sbh0 qu_6 u_6) ⟨hx, hb, hml, hown, hts⟩ gU_J5_83 hdu_J5_isLatin1_aae02 rfl hK hST hS hP [0, 1] rfl (va_recv hK hP (ci := 1) (q0 := 0) rfl rfl) ⟨Nat.le_of_ble_eq_true rfl, Nat.le_of_ble_eq_true rfl⟩ ⟨Nat.le_of_ble_eq_true rfl, Nat.le_of_ble_eq_true rfl⟩ rfl hl.1 rfl (Nat.le_of_ble_eq_true rfl) dJ5_append_c97b9_18 rfl (fun b_7 => ?_)
  refine lv_if_eq (tgt := 37) hx hb dJ5_append_c97b9_21 (by decide) (fun c_8 => ?_) (fun c_8 => ?_)
  · exact absurd c_8 (by decide)
  · refine lv_iload_n hx hb dJ5_append_c97b9_24 rfl (lv_at hl 3 rfl) ?_
    refine lv_iload_n hx hb dJ5_append_c97b9_25 rfl (lv_at hl 0 rfl) ?_
    refine lv_aload_n hx hb dJ5_append_c97b9_26 rfl (lv_at hl 2 rfl) ?_
    refine va_get (D := G.1) (ci := 1) (v := .ref qu_6) (C := RJ4) (T := TJ4) (N := 4) hx hb hts uws_J4 hown hK hP 0 rfl rfl 0 (by decide) (hts _ u_185) (fun _ h9 => h9) rfl dJ5_append_c97b9_27 ?_
    have k_9 := hok.1
    have hok := hok.2
    have k_10 := hok.1
    have hok := hok.2
    refine w_S (own := RJ5) (cs := [[(qu_6, .inl (G.2.1 2, u_6.1, .inl u_6.2.1))]]) (rs := [[(sbh0, .inr (1, [.ref qu_6, .int (0 : Int32), .int u_6.2.2.1, .int u_6.2.2.2]))]]) (As := [.int x, .int y_3, .ref qu_6]) (rest := []) (c_J6_getChars_ba4f3 l G qu_6 H.size x y_3 u_6.1 u_6.2.1 k_9 k_10) ⟨hx, hb, hml, hown, hts⟩ g_J5_248 hds_J6_getChars_ba4f3 hK hST hS hP hD hA [1] [0] rfl rfl rfl ⟨Nat.le_of_ble_eq_true rfl, Nat.le_of_ble_eq_true rfl⟩ ⟨Nat.le_of_ble_eq_true rfl, Nat.le_of_ble_eq_true rfl⟩ rfl hl.1 rfl (Nat.le_of_ble_eq_true rfl) dJ5_append_c97b9_30 (fun u_12 H locs huu hP hD hS => ?_)
    have eu_12 := huu
    have hP : va_P G.1 vwCl (fl [[(qu_6, .inl (G.2.1 2, u_6.1, .inl u_12.2))], [(sbh0, .inr (1, [.ref qu_6, .int (0 : Int32), .int u_6.2.2.1, .int u_6.2.2.2]))]]) H := hP
    have hD : va_D A (fl [[(qu_6, .inl (G.2.1 2, u_6.1, .inl u_12.2))], [(sbh0, .inr (1, [.ref qu_6, .int (0 : Int32), .int u_6.2.2.1, .int u_6.2.2.2]))]]) := hD
    refine W.eq (g2 := F0 m 33 ls [.int u_12.1]) rfl ?_
    have hF : f_J5_append_c97b9 sb x = (u_6.1, u_12.2, u_6.2.2.1, y_3) := by subst eu_12; exact hF
    refine lv_pop hx hb dJ5_append_c97b9_33 rfl ?_
    refine lv_goto (tgt := 48) hx hb dJ5_append_c97b9_34 (by decide) ?_
    refine lv_aload_n hx hb dJ5_append_c97b9_48 rfl (lv_at hl 2 rfl) ?_
    refine lv_iload_n hx hb dJ5_append_c97b9_49 rfl (lv_at hl 0 rfl) ?_
    refine va_put (D := G.1) (ci := 1) (v := .int y_3) (ty := .int) (C := RJ4) (T := TJ4) (N := 4) hx hb hts uws_J4 tyJ4 tyJ4_ok nmJ4 hown hK hP hD hS 1 rfl rfl 3 (by decide) (hts _ u_189) (fun _ h9 => h9) rfl (by decide +kernel) rfl rfl (Nat.le_of_ble_eq_true rfl) dJ5_append_c97b9_50 (fun H locs hP hD hS => ?_)
    have hP : va_P G.1 vwCl (fl [[(qu_6, .inl (G.2.1 2, u_6.1, .inl u_12.2))], [(sbh0, .inr (1, [.ref qu_6, .int (0 : Int32), .int u_6.2.2.1, .int y_3]))]]) H := hP
    have hD : va_D A (fl [[(qu_6, .inl (G.2.1 2, u_6.1, .inl u_12.2))], [(sbh0, .inr (1, [.ref qu_6, .int (0 : Int32), .int u_6.2.2.1, .int y_3]))]]) := hD
    refine lv_aload_n hx hb dJ5_append_c97b9_53 rfl (lv_at hl 2 rfl) ?_
    have hP := fl_sub (cs := [[(sbh0, .inr (1, [.ref qu_6, .int (0 : Int32), .int u_6.2.2.1, .int y_3]))], [(qu_6, .inl (G.2.1 2, u_6.1, .inl u_12.2))]]) [1, 0] rfl hP
    have hD := fl_subD (cs := [[(sbh0, .inr (1, [.ref qu_6, .int (0 : Int32), .int u_6.2.2.1, .int y_3]))], [(qu_6, .inl (G.2.1 2, u_6.1, .inl u_12.2))]]) [1, 0] rfl rfl hD
    exact w_retA (u := (qu_6, (u_6.1, u_12.2, u_6.2.2.1, y_3))) hx hb hr hlk (Or.inl ⟨_, rfl⟩) (Or.inr ⟨_, rfl⟩) hS rfl hF.symm hP hD (Nat.le_of_ble_eq_true rfl) (Nat.le_of_ble_eq_true rfl) dJ5_append_c97b9_54
theorem dJ4_append_bf812_0 : decode cJ4_append_bf812 0 = .ok (.aload_n 0, 1) := by decide +kernel
theorem dJ4_append_bf812_1 : decode cJ4_append_bf812 1 = .ok (.iload_n 1, 1) := by decide +kernel
theorem dJ4_append_bf812_2 : decode cJ4_append_bf812 2 = .ok (.invokespecial 53, 3) := by decide +kernel
theorem u_323 : Cond.methodLink RJ4 53 yJ5_append_c97b9 ∈ UW := uw 323 (by decide +kernel) rfl
theorem u_1597 : Cond.sameMethod RJ5 RJ5 "append" "(I)Ljava/lang/AbstractStringBuilder;" ∈ UW := uw 1597 (by decide +kernel) rfl
theorem u_324 : Cond.instanceMethod yJ5_append_c97b9 ∈ UW := uw 324 (by decide +kernel) rfl
theorem u_325 : Cond.code yJ5_append_c97b9 cJ5_append_c97b9 4 (some (.object "java/lang/AbstractStringBuilder")) ∈ UW := uw 325 (by decide +kernel) rfl
theorem gSU_J4_53 : GoodIn UW (va_wsSU RJ4 53 yJ5_append_c97b9 (wsU yJ5_append_c97b9 cJ5_append_c97b9 4 (some (.object "java/lang/AbstractStringBuilder")))) := gSU u_323 u_1597 u_159 u_324 u_29 u_325
theorem hdsu_J5_append_c97b9 : yJ5_append_c97b9.name ≠ "<init>" ∧ (parseMethodDescriptor yJ5_append_c97b9.desc).map (fun d => d.parameters.length) = some 1 := by decide +kernel
theorem dJ4_append_bf812_5 : decode cJ4_append_bf812 5 = .ok (.pop, 1) := by decide +kernel
theorem dJ4_append_bf812_6 : decode cJ4_append_bf812 6 = .ok (.aload_n 0, 1) := by decide +kernel
theorem dJ4_append_bf812_7 : decode cJ4_append_bf812 7 = .ok (.areturn, 1) := by decide +kernel
def f_J4_append_bf812 (sb : SbV) (x : Int32) : SbV := (let u_3 : SbV := (f_J5_append_c97b9 sb x); u_3)
def ok_J4_append_bf812 (sb : SbV) (x : Int32) : Prop := (ok_J5_append_c97b9 sb x ∧ True)
set_option maxHeartbeats 4000000 in
set_option maxRecDepth 100000 in
theorem c_J4_append_bf812 (l : Launch) (G : GG) (sbh0 : Nat) (sbh1 : Nat) (sz : Nat) (sb : SbV) (x : Int32) (hok : ok_J4_append_bf812 sb x) : wMet l yJ4_append_bf812 cJ4_append_bf812 2 (some (.object "java/lang/StringBuilder")) 6 1 200 G (fl [[(sbh0, .inr (1, [.ref sbh1, .int (0 : Int32), .int sb.2.2.1, .int sb.2.2.2]))], [(sbh1, .inl (G.2.1 2, sb.1, .inl sb.2.1))]]) [.ref sbh0, .int x] sz (fun u : Nat × SbV => some (.ref sbh0)) (fun u : Nat × SbV => u.2 = f_J4_append_bf812 sb x) (fun u : Nat × SbV => fl [[(sbh0, .inr (1, [.ref u.1, .int (0 : Int32), .int u.2.2.2.1, .int u.2.2.2.2]))], [(u.1, .inl (G.2.1 2, u.2.1, .inl u.2.2.1))]]) := by
  refine w_start (by decide +kernel) (Nat.le_of_ble_eq_true rfl) ?_
  intro p e s m below meth c A hx hb hr hml hts hown hlk hin hP hD hA hK hST ls hl
  have hS : va_S A s.heap s.heap [] := va_S.rf
  have hown : s.vm.findClass RJ4 = some m.cls := hown
  have hl : lv_has ls 2 [(0, .ref sbh0), (1, .int x)] := hl
  have hF : f_J4_append_bf812 sb x = (let u_3 : SbV := (f_J5_append_c97b9 sb x); u_3) := rfl
  have hok : (ok_J5_append_c97b9 sb x ∧ True) := hok
  refine lv_aload_n hx hb dJ4_append_bf812_0 rfl (lv_at hl 0 rfl) ?_
  refine lv_iload_n hx hb dJ4_append_bf812_1 rfl (lv_at hl 1 rfl) ?_
  have k_1 := hok.1
  have hok := hok.2
  refine w_SU (own := RJ4) (cs := [[(sbh0, .inr (1, [.ref sbh1, .int (0 : Int32), .int sb.2.2.1, .int sb.2.2.2]))], [(sbh1, .inl (G.2.1 2, sb.1, .inl sb.2.1))]]) (rs := []) (As := [.int x]) (rest := []) (c_J5_append_c97b9 l G sbh0 sbh1 s.heap.size sb x k_1) ⟨hx, hb, hml, hown, hts⟩ gSU_J4_53 hdsu_J5_append_c97b9 1 _ rfl rfl hK hST hS hP hD hA [0, 1] [] rfl rfl rfl (va_recv hK hP (ci := 1) (q0 := 0) rfl rfl) ⟨Nat.le_of_ble_eq_true rfl, Nat.le_of_ble_eq_true rfl⟩ ⟨Nat.le_of_ble_eq_true rfl, Nat.le_of_ble_eq_true rfl⟩ rfl hl.1 rfl (Nat.le_of_ble_eq_true rfl) dJ4_append_bf812_2 (fun u_3 H locs huu hP hD hS => ?_)
  obtain ⟨qu_3, u_3⟩ := u_3
  have eu_3 : u_3 = (f_J5_append_c97b9 sb x) := huu
  have hP : va_P G.1 vwCl (fl [[(sbh0, .inr (1, [.ref qu_3, .int (0 : Int32), .int u_3.2.2.1, .int u_3.2.2.2]))], [(qu_3, .inl (G.2.1 2, u_3.1, .inl u_3.2.1))]]) H := hP
  have hD : va_D A (fl [[(sbh0, .inr (1, [.ref qu_3, .int (0 : Int32), .int u_3.2.2.1, .int u_3.2.2.2]))], [(qu_3, .inl (G.2.1 2, u_3.1, .inl u_3.2.1))]]) := hD
  refine W.eq (g2 := F0 m 5 ls [.ref sbh0]) rfl ?_
  have hF : f_J4_append_bf812 sb x = u_3 := by subst eu_3; exact hF
  refine lv_pop hx hb dJ4_append_bf812_5 rfl ?_
  refine lv_aload_n hx hb dJ4_append_bf812_6 rfl (lv_at hl 0 rfl) ?_
  exact w_retA (u := (qu_3, u_3)) hx hb hr hlk (Or.inl ⟨_, rfl⟩) (Or.inr ⟨_, rfl⟩) hS rfl hF.symm hP hD (Nat.le_of_ble_eq_true rfl) (Nat.le_of_ble_eq_true rfl) dJ4_append_bf812_7
