theorem dX10_thrown_0 : decode cX10_thrown 0 = .ok (.aload_n 0, 1) := by decide +kernel
theorem dX10_thrown_1 : decode cX10_thrown 1 = .ok (.getfield 38, 3) := by decide +kernel
theorem uws_X10 : ∀ w ∈ wsX100, w ∈ UW := uw_all [1697, 1699, 1701, 1703, 1705, 1707, 1709, 1711, 1713, 1715, 1717, 1719, 1721, 1723, 1725, 1727, 1729] (by decide +kernel) (by decide +kernel)
theorem u_1685 : Cond.fieldLink RX10 38 "MoonlitDoorsModel" "thrown" "I" ∈ UW := uw 1685 (by decide +kernel) rfl
theorem dX10_thrown_4 : decode cX10_thrown 4 = .ok (.ireturn, 1) := by decide +kernel
def f_X10_thrown (d : MoV) : Int32 := d.2.2.2.2.2.1
set_option maxHeartbeats 4000000 in
set_option maxRecDepth 100000 in
theorem c_X10_thrown (l : Launch) (G : GG) (dh0 : Nat) (dh1 : Nat) (dh2 : Nat) (dh3 : Nat) (dh4 : Nat) (dh5 : Nat) (dh6 : Nat) (dh7 : Nat) (d : MoV) : rMet l yX10_thrown cX10_thrown 1 (some .int) 1 G (fl [wMo G dh0 dh1 dh2 dh3 dh4 dh5 dh6 dh7 d]) [.ref dh0] (some (.int (f_X10_thrown d))) (True) := by
  refine r_start (by decide +kernel) (Nat.le_of_ble_eq_true rfl) ?_
  intro p e s m below meth c hx hb hr hml hts hown hlk hP hK hST ls hl
  have hS : va_S (fun _ => False) s.heap s.heap [] := va_S.rf
  have hown : s.vm.findClass RX10 = some m.cls := hown
  have hl : lv_has ls 1 [(0, .ref dh0)] := hl
  have hF : f_X10_thrown d = d.2.2.2.2.2.1 := rfl
  refine lv_aload_n hx hb dX10_thrown_0 rfl (lv_at hl 0 rfl) ?_
  refine va_get (D := G.1) (ci := 12) (v := .int d.2.2.2.2.2.1) (C := RX10) (T := TX10) (N := 17) hx hb hts uws_X10 hown hK hP 0 rfl rfl 5 (by decide) (hts _ u_1685) (fun _ h9 => h9) rfl dX10_thrown_1 ?_
  exact r_ret hx hb hr hlk rfl (by rw [hF]) trivial dX10_thrown_4
theorem dX10_isIn_0 : decode cX10_isIn 0 = .ok (.iload_n 0, 1) := by decide +kernel
theorem dX10_isIn_1 : decode cX10_isIn 1 = .ok (.iload_n 1, 1) := by decide +kernel
theorem dX10_isIn_2 : decode cX10_isIn 2 = .ok (.if_icmp .lt 12, 3) := by decide +kernel
theorem dX10_isIn_14 : decode cX10_isIn 14 = .ok (.iconst 0, 1) := by decide +kernel
theorem dX10_isIn_15 : decode cX10_isIn 15 = .ok (.ireturn, 1) := by decide +kernel
theorem dX10_isIn_5 : decode cX10_isIn 5 = .ok (.iload_n 0, 1) := by decide +kernel
theorem dX10_isIn_6 : decode cX10_isIn 6 = .ok (.iload_n 2, 1) := by decide +kernel
theorem dX10_isIn_7 : decode cX10_isIn 7 = .ok (.if_icmp .gt 7, 3) := by decide +kernel
theorem dX10_isIn_10 : decode cX10_isIn 10 = .ok (.iconst 1, 1) := by decide +kernel
theorem dX10_isIn_11 : decode cX10_isIn 11 = .ok (.goto 4, 3) := by decide +kernel
def f_X10_isIn (x : Int32) (lo : Int32) (hi : Int32) : Int32 := (if x < lo then (0 : Int32) else (if hi < x then (0 : Int32) else (1 : Int32)))
set_option maxHeartbeats 4000000 in
set_option maxRecDepth 100000 in
theorem c_X10_isIn (l : Launch) (G : GG)  (x : Int32) (lo : Int32) (hi : Int32) : rMet l yX10_isIn cX10_isIn 3 (some .boolean) 1 G (fl []) [.int x, .int lo, .int hi] (some (.int (f_X10_isIn x lo hi))) (narrow .boolean (.int (f_X10_isIn x lo hi)) = .int (f_X10_isIn x lo hi)) := by
  refine r_start (by decide +kernel) (Nat.le_of_ble_eq_true rfl) ?_
  intro p e s m below meth c hx hb hr hml hts hown hlk hP hK hST ls hl
  have hS : va_S (fun _ => False) s.heap s.heap [] := va_S.rf
  have hown : s.vm.findClass RX10 = some m.cls := hown
  have hl : lv_has ls 3 [(0, .int x), (1, .int lo), (2, .int hi)] := hl
  have hF : f_X10_isIn x lo hi = (if x < lo then (0 : Int32) else (if hi < x then (0 : Int32) else (1 : Int32))) := rfl
  refine lv_iload_n hx hb dX10_isIn_0 rfl (lv_at hl 0 rfl) ?_
  refine lv_iload_n hx hb dX10_isIn_1 rfl (lv_at hl 1 rfl) ?_
  refine lv_icmp_lt (tgt := 14) hx hb dX10_isIn_2 (by decide) (fun c_1 => ?_) (fun c_1 => ?_)
  · have hF := hF.trans (if_pos c_1)
    refine lv_iconst (v := (0 : Int32)) hx hb dX10_isIn_14 (by decide) ?_
    exact r_ret hx hb hr hlk rfl (by rw [hF]) (by rw [hF]; exact (rfl : narrow .boolean (.int (0 : Int32)) = .int (0 : Int32))) dX10_isIn_15
  · have hF := hF.trans (if_neg c_1)
    refine lv_iload_n hx hb dX10_isIn_5 rfl (lv_at hl 0 rfl) ?_
    refine lv_iload_n hx hb dX10_isIn_6 rfl (lv_at hl 2 rfl) ?_
    refine lv_icmp_gt (tgt := 14) hx hb dX10_isIn_7 (by decide) (fun c_2 => ?_) (fun c_2 => ?_)
    · have hF := hF.trans (if_pos c_2)
      refine lv_iconst (v := (0 : Int32)) hx hb dX10_isIn_14 (by decide) ?_
      exact r_ret hx hb hr hlk rfl (by rw [hF]) (by rw [hF]; exact (rfl : narrow .boolean (.int (0 : Int32)) = .int (0 : Int32))) dX10_isIn_15
    · have hF := hF.trans (if_neg c_2)
      refine lv_iconst (v := (1 : Int32)) hx hb dX10_isIn_10 (by decide) ?_
      refine lv_goto (tgt := 15) hx hb dX10_isIn_11 (by decide) ?_
      exact r_ret hx hb hr hlk rfl (by rw [hF]) (by rw [hF]; exact (rfl : narrow .boolean (.int (1 : Int32)) = .int (1 : Int32))) dX10_isIn_15
theorem dX10_copies_0 : decode cX10_copies 0 = .ok (.iconst 0, 1) := by decide +kernel
theorem dX10_copies_1 : decode cX10_copies 1 = .ok (.istore 4, 2) := by decide +kernel
theorem dX10_copies_3 : decode cX10_copies 3 = .ok (.iload 4, 2) := by decide +kernel
theorem dX10_copies_5 : decode cX10_copies 5 = .ok (.sipush 249, 3) := by decide +kernel
theorem dX10_copies_8 : decode cX10_copies 8 = .ok (.if_icmp .ge 21, 3) := by decide +kernel
theorem dX10_copies_29 : decode cX10_copies 29 = .ok (.return_, 1) := by decide +kernel
theorem dX10_copies_11 : decode cX10_copies 11 = .ok (.aload_n 2, 1) := by decide +kernel
theorem dX10_copies_12 : decode cX10_copies 12 = .ok (.iload_n 3, 1) := by decide +kernel
theorem dX10_copies_13 : decode cX10_copies 13 = .ok (.iload 4, 2) := by decide +kernel
theorem dX10_copies_15 : decode cX10_copies 15 = .ok (.iadd, 1) := by decide +kernel
theorem dX10_copies_16 : decode cX10_copies 16 = .ok (.aload_n 0, 1) := by decide +kernel
theorem dX10_copies_17 : decode cX10_copies 17 = .ok (.iload_n 1, 1) := by decide +kernel
theorem dX10_copies_18 : decode cX10_copies 18 = .ok (.iload 4, 2) := by decide +kernel
theorem dX10_copies_20 : decode cX10_copies 20 = .ok (.iadd, 1) := by decide +kernel
theorem dX10_copies_21 : decode cX10_copies 21 = .ok (.iaload, 1) := by decide +kernel
theorem dX10_copies_22 : decode cX10_copies 22 = .ok (.iastore, 1) := by decide +kernel
theorem dX10_copies_23 : decode cX10_copies 23 = .ok (.iinc 4 1, 3) := by decide +kernel
theorem dX10_copies_26 : decode cX10_copies 26 = .ok (.goto (-23), 3) := by decide +kernel
def lp_X10_copies_3 (fn : Nat) (f : Nat → Int32) (i : Int32) (gn : Nat) (g : Nat → Int32) (j : Int32) : Nat → Int32 → (Nat → Int32) → (Nat → Int32)
  | 0, _, _ => g
  | n + 1, x4, gL => (if (249 : Int32) ≤ x4 then gL else (lp_X10_copies_3 fn f i gn g j n (x4 + 1) (upd gL (j + x4).toNatClampNeg (f (i + x4).toNatClampNeg))))
def okl_lp_X10_copies_3 (fn : Nat) (f : Nat → Int32) (i : Int32) (gn : Nat) (g : Nat → Int32) (j : Int32) : Nat → Int32 → (Nat → Int32) → Prop
  | 0, _, _ => True
  | n + 1, x4, gL => (if (249 : Int32) ≤ x4 then True else (vp_in (i + x4) fn ∧ (vp_in (j + x4) gn ∧ (okl_lp_X10_copies_3 fn f i gn g j n (x4 + 1) (upd gL (j + x4).toNatClampNeg (f (i + x4).toNatClampNeg))))))
def f_X10_copies (fn : Nat) (f : Nat → Int32) (i : Int32) (gn : Nat) (g : Nat → Int32) (j : Int32) : (Nat → Int32) := (lp_X10_copies_3 fn f i gn g j ((((249 : Int32)).toInt - ((0 : Int32)).toInt).toNat + 1) (0 : Int32) g)
def ok_X10_copies (fn : Nat) (f : Nat → Int32) (i : Int32) (gn : Nat) (g : Nat → Int32) (j : Int32) : Prop := (okl_lp_X10_copies_3 fn f i gn g j ((((249 : Int32)).toInt - ((0 : Int32)).toInt).toNat + 1) (0 : Int32) g)
set_option maxHeartbeats 4000000 in
set_option maxRecDepth 100000 in
theorem c_X10_copies (l : Launch) (G : GG) (fh : Nat) (gh : Nat) (sz : Nat) (fn : Nat) (f : Nat → Int32) (i : Int32) (gn : Nat) (g : Nat → Int32) (j : Int32) (hok : ok_X10_copies fn f i gn g j) : wMet l yX10_copies cX10_copies 5 none 1 0 0 G (fl [[cArr G fh fn f], [cArr G gh gn g]]) [.ref fh, .int i, .ref gh, .int j] sz (fun u : (Nat → Int32) => none) (fun u : (Nat → Int32) => u = f_X10_copies fn f i gn g j) (fun u : (Nat → Int32) => fl [[cArr G fh fn f], [cArr G gh gn u]]) := by
  refine w_start (by decide +kernel) (Nat.le_of_ble_eq_true rfl) ?_
  intro p e s m below meth c A hx hb hr hml hts hown hlk hin hP hD hA hK hST ls hl
  have hS : va_S A s.heap s.heap [] := va_S.rf
  have hown : s.vm.findClass RX10 = some m.cls := hown
  have hl : lv_has ls 5 [(0, .ref fh), (1, .int i), (2, .ref gh), (3, .int j)] := hl
  have hF : f_X10_copies fn f i gn g j = (lp_X10_copies_3 fn f i gn g j ((((249 : Int32)).toInt - ((0 : Int32)).toInt).toNat + 1) (0 : Int32) g) := rfl
  have hok : (okl_lp_X10_copies_3 fn f i gn g j ((((249 : Int32)).toInt - ((0 : Int32)).toInt).toNat + 1) (0 : Int32) g) := hok
  refine lv_iconst (v := (0 : Int32)) hx hb dX10_copies_0 (by decide) ?_
  refine lv_istore (lv' := [(4, .int (0 : Int32)), (0, .ref fh), (1, .int i), (2, .ref gh), (3, .int j)]) hx hb dX10_copies_1 hl (by decide) rfl (fun ls hl => ?_)
  have L3 : ∀ (n : Nat) (x4 : Int32) (gL : Nat → Int32) (H : Heap) (locs : List Loc) (ls : Array Slot), lv_has ls 5 [(4, .int x4), (0, .ref fh), (1, .int i), (2, .ref gh), (3, .int j)] → va_P G.1 vwCl (fl [[cArr G fh fn f], [cArr G gh gn gL]]) H → va_D A (fl [[cArr G fh fn f], [cArr G gh gn gL]]) → va_S A s.heap H locs → (upI x4 (249 : Int32) n) → f_X10_copies fn f i gn g j = lp_X10_copies_3 fn f i gn g j n x4 gL → okl_lp_X10_copies_3 fn f i gn g j n x4 gL → W p l e (rmd 1 0 0) s m ([.ref fh, .int i, .ref gh, .int j] : List Value).toArray below meth c H locs 0 0 (MQ below (wQ (fun u : (Nat → Int32) => none) (fun u : (Nat → Int32) => u = f_X10_copies fn f i gn g j) (fun u : (Nat → Int32) => fl [[cArr G fh fn f], [cArr G gh gn u]]) G.1 A) ([.ref fh, .int i, .ref gh, .int j] : List Value).toArray s 0 0 A) (F0 m 3 ls []) := by
    intro n
    induction n with
    | zero => intro x4 gL H locs ls hl _ _ _ hu; exact absurd hu (upI_0)
    | succ n ih =>
      intro x4 gL H locs ls hl hP hD hS hu hF hok
      have hF : f_X10_copies fn f i gn g j = (if (249 : Int32) ≤ x4 then gL else (lp_X10_copies_3 fn f i gn g j n (x4 + 1) (upd gL (j + x4).toNatClampNeg (f (i + x4).toNatClampNeg)))) := hF
      have hok : (if (249 : Int32) ≤ x4 then True else (vp_in (i + x4) fn ∧ (vp_in (j + x4) gn ∧ (okl_lp_X10_copies_3 fn f i gn g j n (x4 + 1) (upd gL (j + x4).toNatClampNeg (f (i + x4).toNatClampNeg)))))) := hok
      refine lv_iload hx hb dX10_copies_3 (lv_at hl 0 rfl) ?_
      refine lv_sipush (v := (249 : Int32)) hx hb dX10_copies_5 (by decide) ?_
      refine lv_icmp_ge (tgt := 29) hx hb dX10_copies_8 (by decide) (fun c_1 => ?_) (fun c_1 => ?_)
      · have hF := hF.trans (if_pos c_1)
        have hok := Eq.mp (if_pos c_1) hok
        exact w_retV (u := gL) hx hb hr hlk hS rfl hF.symm hP hD (Nat.le_of_ble_eq_true rfl) (Nat.le_of_ble_eq_true rfl) dX10_copies_29
      · have hF := hF.trans (if_neg c_1)
        have hok := Eq.mp (if_neg c_1) hok
        refine lv_aload_n hx hb dX10_copies_11 rfl (lv_at hl 3 rfl) ?_
        refine lv_iload_n hx hb dX10_copies_12 rfl (lv_at hl 4 rfl) ?_
        refine lv_iload hx hb dX10_copies_13 (lv_at hl 0 rfl) ?_
        refine lv_iadd hx hb dX10_copies_15 ?_
        refine lv_aload_n hx hb dX10_copies_16 rfl (lv_at hl 1 rfl) ?_
        refine lv_iload_n hx hb dX10_copies_17 rfl (lv_at hl 2 rfl) ?_
        refine lv_iload hx hb dX10_copies_18 (lv_at hl 0 rfl) ?_
        refine lv_iadd hx hb dX10_copies_20 ?_
        have h_2 := hok.1
        have hok := hok.2
        refine va_iald hx hb hK hP 0 0 rfl rfl h_2 dX10_copies_21 ?_
        have h_3 := hok.1
        have hok := hok.2
        refine va_iast hx hb hK hP hD hS 1 0 rfl rfl h_3 dX10_copies_22 (fun H locs hP hD hS => ?_)
        have hP : va_P G.1 vwCl (fl [[cArr G fh fn f], [cArr G gh gn (upd gL (j + x4).toNatClampNeg (f (i + x4).toNatClampNeg))]]) H := hP
        have hD : va_D A (fl [[cArr G fh fn f], [cArr G gh gn (upd gL (j + x4).toNatClampNeg (f (i + x4).toNatClampNeg))]]) := hD
        refine lv_iinc (v := (x4 + 1)) (lv' := [(4, .int (x4 + 1)), (0, .ref fh), (1, .int i), (2, .ref gh), (3, .int j)]) hx hb dX10_copies_23 hl (k := 0) rfl rfl (by decide) rfl (fun ls hl => ?_)
        refine lv_goto (tgt := 3) hx hb dX10_copies_26 (by decide) ?_
        exact ih (x4 + 1) (upd gL (j + x4).toNatClampNeg (f (i + x4).toNatClampNeg)) _ _ ls (lv_sub hl [0, 1, 2, 3, 4] rfl) hP hD hS (upI_s (Int32.not_le.mp c_1) hu) hF hok
  exact L3 ((((249 : Int32)).toInt - ((0 : Int32)).toInt).toNat + 1) (0 : Int32) g _ _ ls (lv_sub hl [0, 1, 2, 3, 4] rfl) hP hD hS (upI_i) hF hok
def lp_X10_copies2_3 (fn : Nat) (f : Nat → Int32) (i : Int32) (j : Int32) : Nat → Int32 → (Nat → Int32) → (Nat → Int32)
  | 0, _, _ => f
  | n + 1, x4, fL => (if (249 : Int32) ≤ x4 then fL else (lp_X10_copies2_3 fn f i j n (x4 + 1) (upd fL (j + x4).toNatClampNeg (fL (i + x4).toNatClampNeg))))
def okl_lp_X10_copies2_3 (fn : Nat) (f : Nat → Int32) (i : Int32) (j : Int32) : Nat → Int32 → (Nat → Int32) → Prop
  | 0, _, _ => True
  | n + 1, x4, fL => (if (249 : Int32) ≤ x4 then True else (vp_in (i + x4) fn ∧ (vp_in (j + x4) fn ∧ (okl_lp_X10_copies2_3 fn f i j n (x4 + 1) (upd fL (j + x4).toNatClampNeg (fL (i + x4).toNatClampNeg))))))
def f_X10_copies2 (fn : Nat) (f : Nat → Int32) (i : Int32) (j : Int32) : (Nat → Int32) := (lp_X10_copies2_3 fn f i j ((((249 : Int32)).toInt - ((0 : Int32)).toInt).toNat + 1) (0 : Int32) f)
def ok_X10_copies2 (fn : Nat) (f : Nat → Int32) (i : Int32) (j : Int32) : Prop := (okl_lp_X10_copies2_3 fn f i j ((((249 : Int32)).toInt - ((0 : Int32)).toInt).toNat + 1) (0 : Int32) f)
set_option maxHeartbeats 4000000 in
set_option maxRecDepth 100000 in
theorem c_X10_copies2 (l : Launch) (G : GG) (fh : Nat) (sz : Nat) (fn : Nat) (f : Nat → Int32) (i : Int32) (j : Int32) (hok : ok_X10_copies2 fn f i j) : wMet l yX10_copies cX10_copies 5 none 1 0 0 G (fl [[cArr G fh fn f]]) [.ref fh, .int i, .ref fh, .int j] sz (fun u : (Nat → Int32) => none) (fun u : (Nat → Int32) => u = f_X10_copies2 fn f i j) (fun u : (Nat → Int32) => fl [[cArr G fh fn u]]) := by
  refine w_start (by decide +kernel) (Nat.le_of_ble_eq_true rfl) ?_
  intro p e s m below meth c A hx hb hr hml hts hown hlk hin hP hD hA hK hST ls hl
  have hS : va_S A s.heap s.heap [] := va_S.rf
  have hown : s.vm.findClass RX10 = some m.cls := hown
  have hl : lv_has ls 5 [(0, .ref fh), (1, .int i), (2, .ref fh), (3, .int j)] := hl
  have hF : f_X10_copies2 fn f i j = (lp_X10_copies2_3 fn f i j ((((249 : Int32)).toInt - ((0 : Int32)).toInt).toNat + 1) (0 : Int32) f) := rfl
  have hok : (okl_lp_X10_copies2_3 fn f i j ((((249 : Int32)).toInt - ((0 : Int32)).toInt).toNat + 1) (0 : Int32) f) := hok
  refine lv_iconst (v := (0 : Int32)) hx hb dX10_copies_0 (by decide) ?_
  refine lv_istore (lv' := [(4, .int (0 : Int32)), (0, .ref fh), (1, .int i), (2, .ref fh), (3, .int j)]) hx hb dX10_copies_1 hl (by decide) rfl (fun ls hl => ?_)
  have L3 : ∀ (n : Nat) (x4 : Int32) (fL : Nat → Int32) (H : Heap) (locs : List Loc) (ls : Array Slot), lv_has ls 5 [(4, .int x4), (0, .ref fh), (1, .int i), (2, .ref fh), (3, .int j)] → va_P G.1 vwCl (fl [[cArr G fh fn fL]]) H → va_D A (fl [[cArr G fh fn fL]]) → va_S A s.heap H locs → (upI x4 (249 : Int32) n) → f_X10_copies2 fn f i j = lp_X10_copies2_3 fn f i j n x4 fL → okl_lp_X10_copies2_3 fn f i j n x4 fL → W p l e (rmd 1 0 0) s m ([.ref fh, .int i, .ref fh, .int j] : List Value).toArray below meth c H locs 0 0 (MQ below (wQ (fun u : (Nat → Int32) => none) (fun u : (Nat → Int32) => u = f_X10_copies2 fn f i j) (fun u : (Nat → Int32) => fl [[cArr G fh fn u]]) G.1 A) ([.ref fh, .int i, .ref fh, .int j] : List Value).toArray s 0 0 A) (F0 m 3 ls []) := by
    intro n
    induction n with
    | zero => intro x4 fL H locs ls hl _ _ _ hu; exact absurd hu (upI_0)
    | succ n ih =>
      intro x4 fL H locs ls hl hP hD hS hu hF hok
      have hF : f_X10_copies2 fn f i j = (if (249 : Int32) ≤ x4 then fL else (lp_X10_copies2_3 fn f i j n (x4 + 1) (upd fL (j + x4).toNatClampNeg (fL (i + x4).toNatClampNeg)))) := hF
      have hok : (if (249 : Int32) ≤ x4 then True else (vp_in (i + x4) fn ∧ (vp_in (j + x4) fn ∧ (okl_lp_X10_copies2_3 fn f i j n (x4 + 1) (upd fL (j + x4).toNatClampNeg (fL (i + x4).toNatClampNeg)))))) := hok
      refine lv_iload hx hb dX10_copies_3 (lv_at hl 0 rfl) ?_
      refine lv_sipush (v := (249 : Int32)) hx hb dX10_copies_5 (by decide) ?_
      refine lv_icmp_ge (tgt := 29) hx hb dX10_copies_8 (by decide) (fun c_1 => ?_) (fun c_1 => ?_)
      · have hF := hF.trans (if_pos c_1)
        have hok := Eq.mp (if_pos c_1) hok
        exact w_retV (u := fL) hx hb hr hlk hS rfl hF.symm hP hD (Nat.le_of_ble_eq_true rfl) (Nat.le_of_ble_eq_true rfl) dX10_copies_29
      · have hF := hF.trans (if_neg c_1)
        have hok := Eq.mp (if_neg c_1) hok
        refine lv_aload_n hx hb dX10_copies_11 rfl (lv_at hl 3 rfl) ?_
        refine lv_iload_n hx hb dX10_copies_12 rfl (lv_at hl 4 rfl) ?_
        refine lv_iload hx hb dX10_copies_13 (lv_at hl 0 rfl) ?_
        refine lv_iadd hx hb dX10_copies_15 ?_
        refine lv_aload_n hx hb dX10_copies_16 rfl (lv_at hl 1 rfl) ?_
        refine lv_iload_n hx hb dX10_copies_17 rfl (lv_at hl 2 rfl) ?_
        refine lv_iload hx hb dX10_copies_18 (lv_at hl 0 rfl) ?_
        refine lv_iadd hx hb dX10_copies_20 ?_
        have h_2 := hok.1
        have hok := hok.2
        refine va_iald hx hb hK hP 0 0 rfl rfl h_2 dX10_copies_21 ?_
        have h_3 := hok.1
        have hok := hok.2
        refine va_iast hx hb hK hP hD hS 0 0 rfl rfl h_3 dX10_copies_22 (fun H locs hP hD hS => ?_)
        have hP : va_P G.1 vwCl (fl [[cArr G fh fn (upd fL (j + x4).toNatClampNeg (fL (i + x4).toNatClampNeg))]]) H := hP
        have hD : va_D A (fl [[cArr G fh fn (upd fL (j + x4).toNatClampNeg (fL (i + x4).toNatClampNeg))]]) := hD
        refine lv_iinc (v := (x4 + 1)) (lv' := [(4, .int (x4 + 1)), (0, .ref fh), (1, .int i), (2, .ref fh), (3, .int j)]) hx hb dX10_copies_23 hl (k := 0) rfl rfl (by decide) rfl (fun ls hl => ?_)
        refine lv_goto (tgt := 3) hx hb dX10_copies_26 (by decide) ?_
        exact ih (x4 + 1) (upd fL (j + x4).toNatClampNeg (fL (i + x4).toNatClampNeg)) _ _ ls (lv_sub hl [0, 1, 2, 3, 4] rfl) hP hD hS (upI_s (Int32.not_le.mp c_1) hu) hF hok
  exact L3 ((((249 : Int32)).toInt - ((0 : Int32)).toInt).toNat + 1) (0 : Int32) f _ _ ls (lv_sub hl [0, 1, 2, 3, 4] rfl) hP hD hS (upI_i) hF hok
theorem dX10_keeps_0 : decode cX10_keeps 0 = .ok (.aload_n 0, 1) := by decide +kernel
theorem dX10_keeps_1 : decode cX10_keeps 1 = .ok (.getfield 9, 3) := by decide +kernel
theorem u_1680 : Cond.fieldLink RX10 9 "MoonlitDoorsModel" "s" "[I" ∈ UW := uw 1680 (by decide +kernel) rfl
theorem dX10_keeps_4 : decode cX10_keeps 4 = .ok (.iconst 0, 1) := by decide +kernel
theorem dX10_keeps_5 : decode cX10_keeps 5 = .ok (.aload_n 0, 1) := by decide +kernel
theorem dX10_keeps_6 : decode cX10_keeps 6 = .ok (.getfield 13, 3) := by decide +kernel
theorem u_1681 : Cond.fieldLink RX10 13 "MoonlitDoorsModel" "was" "[I" ∈ UW := uw 1681 (by decide +kernel) rfl
theorem dX10_keeps_9 : decode cX10_keeps 9 = .ok (.iconst 0, 1) := by decide +kernel
theorem dX10_keeps_10 : decode cX10_keeps 10 = .ok (.invokestatic 41, 3) := by decide +kernel
theorem u_1744 : Cond.methodLink RX10 41 yX10_copies ∈ UW := uw 1744 (by decide +kernel) rfl
theorem u_1745 : Cond.static yX10_copies ∈ UW := uw 1745 (by decide +kernel) rfl
theorem u_77 : Cond.initialized RX10 ∈ UW := uw 77 (by decide +kernel) rfl
theorem u_1746 : Cond.code yX10_copies cX10_copies 5 none ∈ UW := uw 1746 (by decide +kernel) rfl
theorem g_X10_41 : GoodIn UW (va_wsS RX10 41 yX10_copies (wsU yX10_copies cX10_copies 5 none)) := gS u_1744 u_1745 u_77 u_1746
theorem hds_X10_copies : yX10_copies.cls ≠ "java/lang/invoke/MethodHandle" ∧ yX10_copies.cls ≠ "java/lang/invoke/VarHandle" ∧ (parseMethodDescriptor yX10_copies.desc).map (fun d => d.parameters.length) = some 4 := by decide +kernel
theorem dX10_keeps_13 : decode cX10_keeps 13 = .ok (.aload_n 0, 1) := by decide +kernel
theorem dX10_keeps_14 : decode cX10_keeps 14 = .ok (.iconst 0, 1) := by decide +kernel
theorem dX10_keeps_15 : decode cX10_keeps 15 = .ok (.putfield 38, 3) := by decide +kernel
theorem dX10_keeps_18 : decode cX10_keeps 18 = .ok (.return_, 1) := by decide +kernel
def f_X10_keeps (d : MoV) : MoV := (let u_3 : (Nat → Int32) := (f_X10_copies 249 d.1 (0 : Int32) 249 d.2.1 (0 : Int32)); (mo5 (mo1 d u_3) (0 : Int32)))
def ok_X10_keeps (d : MoV) : Prop := (ok_X10_copies 249 d.1 (0 : Int32) 249 d.2.1 (0 : Int32) ∧ True)
set_option maxHeartbeats 4000000 in
set_option maxRecDepth 100000 in
theorem c_X10_keeps (l : Launch) (G : GG) (dh0 : Nat) (dh1 : Nat) (dh2 : Nat) (dh3 : Nat) (dh4 : Nat) (dh5 : Nat) (dh6 : Nat) (dh7 : Nat) (sz : Nat) (d : MoV) (hok : ok_X10_keeps d) : wMet l yX10_keeps cX10_keeps 1 none 2 0 0 G (fl [wMo G dh0 dh1 dh2 dh3 dh4 dh5 dh6 dh7 d]) [.ref dh0] sz (fun u : MoV => none) (fun u : MoV => u = f_X10_keeps d) (fun u : MoV => fl [wMo G dh0 dh1 dh2 dh3 dh4 dh5 dh6 dh7 u]) := by
  refine w_start (by decide +kernel) (Nat.le_of_ble_eq_true rfl) ?_
  intro p e s m below meth c A hx hb hr hml hts hown hlk hin hP hD hA hK hST ls hl
  have hS : va_S A s.heap s.heap [] := va_S.rf
  have hown : s.vm.findClass RX10 = some m.cls := hown
  have hl : lv_has ls 1 [(0, .ref dh0)] := hl
  have hF : f_X10_keeps d = (let u_3 : (Nat → Int32) := (f_X10_copies 249 d.1 (0 : Int32) 249 d.2.1 (0 : Int32)); (mo5 (mo1 d u_3) (0 : Int32))) := rfl
  have hok : (ok_X10_copies 249 d.1 (0 : Int32) 249 d.2.1 (0 : Int32) ∧ True) := hok
  refine lv_aload_n hx hb dX10_keeps_0 rfl (lv_at hl 0 rfl) ?_
  refine va_get (D := G.1) (ci := 12) (v := .ref dh1) (C := RX10) (T := TX10) (N := 17) hx hb hts uws_X10 hown hK hP 0 rfl rfl 0 (by decide) (hts _ u_1680) (fun _ h9 => h9) rfl dX10_keeps_1 ?_
  refine lv_iconst (v := (0 : Int32)) hx hb dX10_keeps_4 (by decide) ?_
  refine lv_aload_n hx hb dX10_keeps_5 rfl (lv_at hl 0 rfl) ?_
  refine va_get (D := G.1) (ci := 12) (v := .ref dh2) (C := RX10) (T := TX10) (N := 17) hx hb hts uws_X10 hown hK hP 0 rfl rfl 1 (by decide) (hts _ u_1681) (fun _ h9 => h9) rfl dX10_keeps_6 ?_
  refine lv_iconst (v := (0 : Int32)) hx hb dX10_keeps_9 (by decide) ?_
  have k_1 := hok.1
  have hok := hok.2
  have hP : va_P G.1 vwCl (fl [[(dh0, .inr (12, [.ref dh1, .ref dh2, .ref dh3, .ref dh4, .int d.2.2.2.2.1, .int d.2.2.2.2.2.1, .int d.2.2.2.2.2.2.1, .int d.2.2.2.2.2.2.2.1, .int d.2.2.2.2.2.2.2.2.1, .int d.2.2.2.2.2.2.2.2.2.1, .ref dh5, .int d.2.2.2.2.2.2.2.2.2.2.2.1, .ref dh6, .ref dh7, .int d.2.2.2.2.2.2.2.2.2.2.2.2.2.2.1, .int d.2.2.2.2.2.2.2.2.2.2.2.2.2.2.2.1, .int d.2.2.2.2.2.2.2.2.2.2.2.2.2.2.2.2]))], [cArr G dh1 249 d.1], [cArr G dh2 249 d.2.1], [cArr G dh3 249 d.2.2.1], [cArr G dh4 1992 d.2.2.2.1], [cArr G dh5 40 d.2.2.2.2.2.2.2.2.2.2.1], [cArr G dh6 60 d.2.2.2.2.2.2.2.2.2.2.2.2.1], [cArr G dh7 93 d.2.2.2.2.2.2.2.2.2.2.2.2.2.1]]) s.heap := hP
  have hD : va_D A (fl [[(dh0, .inr (12, [.ref dh1, .ref dh2, .ref dh3, .ref dh4, .int d.2.2.2.2.1, .int d.2.2.2.2.2.1, .int d.2.2.2.2.2.2.1, .int d.2.2.2.2.2.2.2.1, .int d.2.2.2.2.2.2.2.2.1, .int d.2.2.2.2.2.2.2.2.2.1, .ref dh5, .int d.2.2.2.2.2.2.2.2.2.2.2.1, .ref dh6, .ref dh7, .int d.2.2.2.2.2.2.2.2.2.2.2.2.2.2.1, .int d.2.2.2.2.2.2.2.2.2.2.2.2.2.2.2.1, .int d.2.2.2.2.2.2.2.2.2.2.2.2.2.2.2.2]))], [cArr G dh1 249 d.1], [cArr G dh2 249 d.2.1], [cArr G dh3 249 d.2.2.1], [cArr G dh4 1992 d.2.2.2.1], [cArr G dh5 40 d.2.2.2.2.2.2.2.2.2.2.1], [cArr G dh6 60 d.2.2.2.2.2.2.2.2.2.2.2.2.1], [cArr G dh7 93 d.2.2.2.2.2.2.2.2.2.2.2.2.2.1]]) := hD
  refine w_S (own := RX10) (cs := [[cArr G dh1 249 d.1], [cArr G dh2 249 d.2.1]]) (rs := [[(dh0, .inr (12, [.ref dh1, .ref dh2, .ref dh3, .ref dh4, .int d.2.2.2.2.1, .int d.2.2.2.2.2.1, .int d.2.2.2.2.2.2.1, .int d.2.2.2.2.2.2.2.1, .int d.2.2.2.2.2.2.2.2.1, .int d.2.2.2.2.2.2.2.2.2.1, .ref dh5, .int d.2.2.2.2.2.2.2.2.2.2.2.1, .ref dh6, .ref dh7, .int d.2.2.2.2.2.2.2.2.2.2.2.2.2.2.1, .int d.2.2.2.2.2.2.2.2.2.2.2.2.2.2.2.1, .int d.2.2.2.2.2.2.2.2.2.2.2.2.2.2.2.2]))], [cArr G dh3 249 d.2.2.1], [cArr G dh4 1992 d.2.2.2.1], [cArr G dh5 40 d.2.2.2.2.2.2.2.2.2.2.1], [cArr G dh6 60 d.2.2.2.2.2.2.2.2.2.2.2.2.1], [cArr G dh7 93 d.2.2.2.2.2.2.2.2.2.2.2.2.2.1]]) (As := [.ref dh1, .int (0 : Int32), .ref dh2, .int (0 : Int32)]) (rest := []) (c_X10_copies l G dh1 dh2 s.heap.size 249 d.1 (0 : Int32) 249 d.2.1 (0 : Int32) k_1) ⟨hx, hb, hml, hown, hts⟩ g_X10_41 hds_X10_copies hK hST hS hP hD hA [1, 2] [0, 3, 4, 5, 6, 7] rfl rfl rfl ⟨Nat.le_of_ble_eq_true rfl, Nat.le_of_ble_eq_true rfl⟩ ⟨Nat.le_of_ble_eq_true rfl, Nat.le_of_ble_eq_true rfl⟩ rfl hl.1 rfl (Nat.le_of_ble_eq_true rfl) dX10_keeps_10 (fun u_3 H locs huu hP hD hS => ?_)
  have eu_3 := huu
  have hP : va_P G.1 vwCl (fl [[cArr G dh1 249 d.1], [cArr G dh2 249 u_3], [(dh0, .inr (12, [.ref dh1, .ref dh2, .ref dh3, .ref dh4, .int d.2.2.2.2.1, .int d.2.2.2.2.2.1, .int d.2.2.2.2.2.2.1, .int d.2.2.2.2.2.2.2.1, .int d.2.2.2.2.2.2.2.2.1, .int d.2.2.2.2.2.2.2.2.2.1, .ref dh5, .int d.2.2.2.2.2.2.2.2.2.2.2.1, .ref dh6, .ref dh7, .int d.2.2.2.2.2.2.2.2.2.2.2.2.2.2.1, .int d.2.2.2.2.2.2.2.2.2.2.2.2.2.2.2.1, .int d.2.2.2.2.2.2.2.2.2.2.2.2.2.2.2.2]))], [cArr G dh3 249 d.2.2.1], [cArr G dh4 1992 d.2.2.2.1], [cArr G dh5 40 d.2.2.2.2.2.2.2.2.2.2.1], [cArr G dh6 60 d.2.2.2.2.2.2.2.2.2.2.2.2.1], [cArr G dh7 93 d.2.2.2.2.2.2.2.2.2.2.2.2.2.1]]) H := hP
  have hD : va_D A (fl [[cArr G dh1 249 d.1], [cArr G dh2 249 u_3], [(dh0, .inr (12, [.ref dh1, .ref dh2, .ref dh3, .ref dh4, .int d.2.2.2.2.1, .int d.2.2.2.2.2.1, .int d.2.2.2.2.2.2.1, .int d.2.2.2.2.2.2.2.1, .int d.2.2.2.2.2.2.2.2.1, .int d.2.2.2.2.2.2.2.2.2.1, .ref dh5, .int d.2.2.2.2.2.2.2.2.2.2.2.1, .ref dh6, .ref dh7, .int d.2.2.2.2.2.2.2.2.2.2.2.2.2.2.1, .int d.2.2.2.2.2.2.2.2.2.2.2.2.2.2.2.1, .int d.2.2.2.2.2.2.2.2.2.2.2.2.2.2.2.2]))], [cArr G dh3 249 d.2.2.1], [cArr G dh4 1992 d.2.2.2.1], [cArr G dh5 40 d.2.2.2.2.2.2.2.2.2.2.1], [cArr G dh6 60 d.2.2.2.2.2.2.2.2.2.2.2.2.1], [cArr G dh7 93 d.2.2.2.2.2.2.2.2.2.2.2.2.2.1]]) := hD
  refine W.eq (g2 := F0 m 13 ls []) rfl ?_
  have hF : f_X10_keeps d = (mo5 (mo1 d u_3) (0 : Int32)) := by subst eu_3; exact hF
  refine lv_aload_n hx hb dX10_keeps_13 rfl (lv_at hl 0 rfl) ?_
  refine lv_iconst (v := (0 : Int32)) hx hb dX10_keeps_14 (by decide) ?_
  refine va_put (D := G.1) (ci := 12) (v := .int (0 : Int32)) (ty := .int) (C := RX10) (T := TX10) (N := 17) hx hb hts uws_X10 tyX10 tyX10_ok nmX10 hown hK hP hD hS 2 rfl rfl 5 (by decide) (hts _ u_1685) (fun _ h9 => h9) rfl (by decide +kernel) rfl rfl (Nat.le_of_ble_eq_true rfl) dX10_keeps_15 (fun H locs hP hD hS => ?_)
  have hP : va_P G.1 vwCl (fl [[cArr G dh1 249 d.1], [cArr G dh2 249 u_3], [(dh0, .inr (12, [.ref dh1, .ref dh2, .ref dh3, .ref dh4, .int d.2.2.2.2.1, .int (0 : Int32), .int d.2.2.2.2.2.2.1, .int d.2.2.2.2.2.2.2.1, .int d.2.2.2.2.2.2.2.2.1, .int d.2.2.2.2.2.2.2.2.2.1, .ref dh5, .int d.2.2.2.2.2.2.2.2.2.2.2.1, .ref dh6, .ref dh7, .int d.2.2.2.2.2.2.2.2.2.2.2.2.2.2.1, .int d.2.2.2.2.2.2.2.2.2.2.2.2.2.2.2.1, .int d.2.2.2.2.2.2.2.2.2.2.2.2.2.2.2.2]))], [cArr G dh3 249 d.2.2.1], [cArr G dh4 1992 d.2.2.2.1], [cArr G dh5 40 d.2.2.2.2.2.2.2.2.2.2.1], [cArr G dh6 60 d.2.2.2.2.2.2.2.2.2.2.2.2.1], [cArr G dh7 93 d.2.2.2.2.2.2.2.2.2.2.2.2.2.1]]) H := hP
  have hD : va_D A (fl [[cArr G dh1 249 d.1], [cArr G dh2 249 u_3], [(dh0, .inr (12, [.ref dh1, .ref dh2, .ref dh3, .ref dh4, .int d.2.2.2.2.1, .int (0 : Int32), .int d.2.2.2.2.2.2.1, .int d.2.2.2.2.2.2.2.1, .int d.2.2.2.2.2.2.2.2.1, .int d.2.2.2.2.2.2.2.2.2.1, .ref dh5, .int d.2.2.2.2.2.2.2.2.2.2.2.1, .ref dh6, .ref dh7, .int d.2.2.2.2.2.2.2.2.2.2.2.2.2.2.1, .int d.2.2.2.2.2.2.2.2.2.2.2.2.2.2.2.1, .int d.2.2.2.2.2.2.2.2.2.2.2.2.2.2.2.2]))], [cArr G dh3 249 d.2.2.1], [cArr G dh4 1992 d.2.2.2.1], [cArr G dh5 40 d.2.2.2.2.2.2.2.2.2.2.1], [cArr G dh6 60 d.2.2.2.2.2.2.2.2.2.2.2.2.1], [cArr G dh7 93 d.2.2.2.2.2.2.2.2.2.2.2.2.2.1]]) := hD
  have hP := fl_sub (cs := [[(dh0, .inr (12, [.ref dh1, .ref dh2, .ref dh3, .ref dh4, .int d.2.2.2.2.1, .int (0 : Int32), .int d.2.2.2.2.2.2.1, .int d.2.2.2.2.2.2.2.1, .int d.2.2.2.2.2.2.2.2.1, .int d.2.2.2.2.2.2.2.2.2.1, .ref dh5, .int d.2.2.2.2.2.2.2.2.2.2.2.1, .ref dh6, .ref dh7, .int d.2.2.2.2.2.2.2.2.2.2.2.2.2.2.1, .int d.2.2.2.2.2.2.2.2.2.2.2.2.2.2.2.1, .int d.2.2.2.2.2.2.2.2.2.2.2.2.2.2.2.2]))], [cArr G dh1 249 d.1], [cArr G dh2 249 u_3], [cArr G dh3 249 d.2.2.1], [cArr G dh4 1992 d.2.2.2.1], [cArr G dh5 40 d.2.2.2.2.2.2.2.2.2.2.1], [cArr G dh6 60 d.2.2.2.2.2.2.2.2.2.2.2.2.1], [cArr G dh7 93 d.2.2.2.2.2.2.2.2.2.2.2.2.2.1]]) [2, 0, 1, 3, 4, 5, 6, 7] rfl hP
  have hD := fl_subD (cs := [[(dh0, .inr (12, [.ref dh1, .ref dh2, .ref dh3, .ref dh4, .int d.2.2.2.2.1, .int (0 : Int32), .int d.2.2.2.2.2.2.1, .int d.2.2.2.2.2.2.2.1, .int d.2.2.2.2.2.2.2.2.1, .int d.2.2.2.2.2.2.2.2.2.1, .ref dh5, .int d.2.2.2.2.2.2.2.2.2.2.2.1, .ref dh6, .ref dh7, .int d.2.2.2.2.2.2.2.2.2.2.2.2.2.2.1, .int d.2.2.2.2.2.2.2.2.2.2.2.2.2.2.2.1, .int d.2.2.2.2.2.2.2.2.2.2.2.2.2.2.2.2]))], [cArr G dh1 249 d.1], [cArr G dh2 249 u_3], [cArr G dh3 249 d.2.2.1], [cArr G dh4 1992 d.2.2.2.1], [cArr G dh5 40 d.2.2.2.2.2.2.2.2.2.2.1], [cArr G dh6 60 d.2.2.2.2.2.2.2.2.2.2.2.2.1], [cArr G dh7 93 d.2.2.2.2.2.2.2.2.2.2.2.2.2.1]]) [2, 0, 1, 3, 4, 5, 6, 7] rfl rfl hD
  exact w_retV (u := (mo5 (mo1 d u_3) (0 : Int32))) hx hb hr hlk hS rfl hF.symm hP hD (Nat.le_of_ble_eq_true rfl) (Nat.le_of_ble_eq_true rfl) dX10_keeps_18
theorem dX10_isThrown_0 : decode cX10_isThrown 0 = .ok (.aload_n 0, 1) := by decide +kernel
theorem dX10_isThrown_1 : decode cX10_isThrown 1 = .ok (.iload_n 1, 1) := by decide +kernel
theorem dX10_isThrown_2 : decode cX10_isThrown 2 = .ok (.ifCond .eq 7, 3) := by decide +kernel
theorem dX10_isThrown_9 : decode cX10_isThrown 9 = .ok (.iconst 0, 1) := by decide +kernel
theorem dX10_isThrown_10 : decode cX10_isThrown 10 = .ok (.putfield 38, 3) := by decide +kernel
theorem dX10_isThrown_13 : decode cX10_isThrown 13 = .ok (.iload_n 1, 1) := by decide +kernel
theorem dX10_isThrown_14 : decode cX10_isThrown 14 = .ok (.ireturn, 1) := by decide +kernel
theorem dX10_isThrown_5 : decode cX10_isThrown 5 = .ok (.iload_n 2, 1) := by decide +kernel
theorem dX10_isThrown_6 : decode cX10_isThrown 6 = .ok (.goto 4, 3) := by decide +kernel
def f_X10_isThrown (d : MoV) (is : Int32) (k : Int32) : MoV := (if is = (0 : Int32) then (mo5 d (0 : Int32)) else (mo5 d k))
set_option maxHeartbeats 4000000 in
set_option maxRecDepth 100000 in
theorem c_X10_isThrown (l : Launch) (G : GG) (dh0 : Nat) (dh1 : Nat) (dh2 : Nat) (dh3 : Nat) (dh4 : Nat) (dh5 : Nat) (dh6 : Nat) (dh7 : Nat) (sz : Nat) (d : MoV) (is : Int32) (k : Int32) (hyp_is : narrow .boolean (.int is) = .int is) : wMet l yX10_isThrown cX10_isThrown 3 (some .boolean) 1 0 0 G (fl [wMo G dh0 dh1 dh2 dh3 dh4 dh5 dh6 dh7 d]) [.ref dh0, .int is, .int k] sz (fun u : MoV => some (.int is)) (fun u : MoV => u = f_X10_isThrown d is k) (fun u : MoV => fl [wMo G dh0 dh1 dh2 dh3 dh4 dh5 dh6 dh7 u]) := by
  refine w_start (by decide +kernel) (Nat.le_of_ble_eq_true rfl) ?_
  intro p e s m below meth c A hx hb hr hml hts hown hlk hin hP hD hA hK hST ls hl
  have hS : va_S A s.heap s.heap [] := va_S.rf
  have hown : s.vm.findClass RX10 = some m.cls := hown
  have hl : lv_has ls 3 [(0, .ref dh0), (1, .int is), (2, .int k)] := hl
  have hF : f_X10_isThrown d is k = (if is = (0 : Int32) then (mo5 d (0 : Int32)) else (mo5 d k)) := rfl
  refine lv_aload_n hx hb dX10_isThrown_0 rfl (lv_at hl 0 rfl) ?_
  refine lv_iload_n hx hb dX10_isThrown_1 rfl (lv_at hl 1 rfl) ?_
  refine lv_if_eq (tgt := 9) hx hb dX10_isThrown_2 (by decide) (fun c_1 => ?_) (fun c_1 => ?_)
  · have hF := hF.trans (if_pos c_1)
    refine lv_iconst (v := (0 : Int32)) hx hb dX10_isThrown_9 (by decide) ?_
    refine va_put (D := G.1) (ci := 12) (v := .int (0 : Int32)) (ty := .int) (C := RX10) (T := TX10) (N := 17) hx hb hts uws_X10 tyX10 tyX10_ok nmX10 hown hK hP hD hS 0 rfl rfl 5 (by decide) (hts _ u_1685) (fun _ h9 => h9) rfl (by decide +kernel) rfl rfl (Nat.le_of_ble_eq_true rfl) dX10_isThrown_10 (fun H locs hP hD hS => ?_)
    have hP : va_P G.1 vwCl (fl [wMo G dh0 dh1 dh2 dh3 dh4 dh5 dh6 dh7 (mo5 d (0 : Int32))]) H := hP
    have hD : va_D A (fl [wMo G dh0 dh1 dh2 dh3 dh4 dh5 dh6 dh7 (mo5 d (0 : Int32))]) := hD
    refine lv_iload_n hx hb dX10_isThrown_13 rfl (lv_at hl 1 rfl) ?_
    exact w_ret (u := (mo5 d (0 : Int32))) hx hb hr hlk hyp_is hS rfl hF.symm hP hD (Nat.le_of_ble_eq_true rfl) (Nat.le_of_ble_eq_true rfl) dX10_isThrown_14
  · have hF := hF.trans (if_neg c_1)
    refine lv_iload_n hx hb dX10_isThrown_5 rfl (lv_at hl 2 rfl) ?_
    refine lv_goto (tgt := 10) hx hb dX10_isThrown_6 (by decide) ?_
    refine va_put (D := G.1) (ci := 12) (v := .int k) (ty := .int) (C := RX10) (T := TX10) (N := 17) hx hb hts uws_X10 tyX10 tyX10_ok nmX10 hown hK hP hD hS 0 rfl rfl 5 (by decide) (hts _ u_1685) (fun _ h9 => h9) rfl (by decide +kernel) rfl rfl (Nat.le_of_ble_eq_true rfl) dX10_isThrown_10 (fun H locs hP hD hS => ?_)
    have hP : va_P G.1 vwCl (fl [wMo G dh0 dh1 dh2 dh3 dh4 dh5 dh6 dh7 (mo5 d k)]) H := hP
    have hD : va_D A (fl [wMo G dh0 dh1 dh2 dh3 dh4 dh5 dh6 dh7 (mo5 d k)]) := hD
    refine lv_iload_n hx hb dX10_isThrown_13 rfl (lv_at hl 1 rfl) ?_
    exact w_ret (u := (mo5 d k)) hx hb hr hlk hyp_is hS rfl hF.symm hP hD (Nat.le_of_ble_eq_true rfl) (Nat.le_of_ble_eq_true rfl) dX10_isThrown_14
