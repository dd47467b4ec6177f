theorem dX10_personByEntries_0 : decode cX10_personByEntries 0 = .ok (.iconst 0, 1) := by decide +kernel
theorem dX10_personByEntries_1 : decode cX10_personByEntries 1 = .ok (.istore_n 2, 1) := by decide +kernel
theorem dX10_personByEntries_2 : decode cX10_personByEntries 2 = .ok (.iload_n 2, 1) := by decide +kernel
theorem dX10_personByEntries_3 : decode cX10_personByEntries 3 = .ok (.aload_n 0, 1) := by decide +kernel
theorem dX10_personByEntries_4 : decode cX10_personByEntries 4 = .ok (.getfield 9, 3) := by decide +kernel
theorem dX10_personByEntries_7 : decode cX10_personByEntries 7 = .ok (.iconst 3, 1) := by decide +kernel
theorem dX10_personByEntries_8 : decode cX10_personByEntries 8 = .ok (.iaload, 1) := by decide +kernel
theorem dX10_personByEntries_9 : decode cX10_personByEntries 9 = .ok (.if_icmp .ge 83, 3) := by decide +kernel
theorem dX10_personByEntries_92 : decode cX10_personByEntries 92 = .ok (.aload_n 0, 1) := by decide +kernel
theorem dX10_personByEntries_93 : decode cX10_personByEntries 93 = .ok (.iconst 1, 1) := by decide +kernel
theorem dX10_personByEntries_94 : decode cX10_personByEntries 94 = .ok (.putfield 38, 3) := by decide +kernel
theorem dX10_personByEntries_97 : decode cX10_personByEntries 97 = .ok (.iconst 0, 1) := by decide +kernel
theorem dX10_personByEntries_98 : decode cX10_personByEntries 98 = .ok (.ireturn, 1) := by decide +kernel
theorem dX10_personByEntries_12 : decode cX10_personByEntries 12 = .ok (.iconst 0, 1) := by decide +kernel
theorem dX10_personByEntries_13 : decode cX10_personByEntries 13 = .ok (.istore_n 3, 1) := by decide +kernel
theorem dX10_personByEntries_14 : decode cX10_personByEntries 14 = .ok (.iconst 0, 1) := by decide +kernel
theorem dX10_personByEntries_15 : decode cX10_personByEntries 15 = .ok (.istore 4, 2) := by decide +kernel
theorem dX10_personByEntries_17 : decode cX10_personByEntries 17 = .ok (.iload 4, 2) := by decide +kernel
theorem dX10_personByEntries_19 : decode cX10_personByEntries 19 = .ok (.aload_n 0, 1) := by decide +kernel
theorem dX10_personByEntries_20 : decode cX10_personByEntries 20 = .ok (.getfield 9, 3) := by decide +kernel
theorem dX10_personByEntries_23 : decode cX10_personByEntries 23 = .ok (.iconst 3, 1) := by decide +kernel
theorem dX10_personByEntries_24 : decode cX10_personByEntries 24 = .ok (.iaload, 1) := by decide +kernel
theorem dX10_personByEntries_25 : decode cX10_personByEntries 25 = .ok (.if_icmp .ge 49, 3) := by decide +kernel
theorem dX10_personByEntries_28 : decode cX10_personByEntries 28 = .ok (.aload_n 0, 1) := by decide +kernel
theorem dX10_personByEntries_29 : decode cX10_personByEntries 29 = .ok (.iload 4, 2) := by decide +kernel
theorem dX10_personByEntries_31 : decode cX10_personByEntries 31 = .ok (.iconst 1, 1) := by decide +kernel
theorem dX10_personByEntries_32 : decode cX10_personByEntries 32 = .ok (.invokevirtual 109, 3) := by decide +kernel
theorem dX10_personByEntries_35 : decode cX10_personByEntries 35 = .ok (.aload_n 0, 1) := by decide +kernel
theorem dX10_personByEntries_36 : decode cX10_personByEntries 36 = .ok (.iload_n 2, 1) := by decide +kernel
theorem dX10_personByEntries_37 : decode cX10_personByEntries 37 = .ok (.iconst 1, 1) := by decide +kernel
theorem dX10_personByEntries_38 : decode cX10_personByEntries 38 = .ok (.invokevirtual 109, 3) := by decide +kernel
theorem dX10_personByEntries_41 : decode cX10_personByEntries 41 = .ok (.isub, 1) := by decide +kernel
theorem dX10_personByEntries_42 : decode cX10_personByEntries 42 = .ok (.istore 5, 2) := by decide +kernel
theorem dX10_personByEntries_44 : decode cX10_personByEntries 44 = .ok (.iload_n 3, 1) := by decide +kernel
theorem dX10_personByEntries_45 : decode cX10_personByEntries 45 = .ok (.iload 5, 2) := by decide +kernel
theorem dX10_personByEntries_47 : decode cX10_personByEntries 47 = .ok (.ifCond .gt 14, 3) := by decide +kernel
theorem dX10_personByEntries_61 : decode cX10_personByEntries 61 = .ok (.iconst 1, 1) := by decide +kernel
theorem dX10_personByEntries_62 : decode cX10_personByEntries 62 = .ok (.goto 4, 3) := by decide +kernel
theorem dX10_personByEntries_66 : decode cX10_personByEntries 66 = .ok (.iadd, 1) := by decide +kernel
theorem dX10_personByEntries_67 : decode cX10_personByEntries 67 = .ok (.istore_n 3, 1) := by decide +kernel
theorem dX10_personByEntries_68 : decode cX10_personByEntries 68 = .ok (.iinc 4 1, 3) := by decide +kernel
theorem dX10_personByEntries_71 : decode cX10_personByEntries 71 = .ok (.goto (-54), 3) := by decide +kernel
theorem dX10_personByEntries_50 : decode cX10_personByEntries 50 = .ok (.iload 5, 2) := by decide +kernel
theorem dX10_personByEntries_52 : decode cX10_personByEntries 52 = .ok (.ifCond .ne 13, 3) := by decide +kernel
theorem dX10_personByEntries_65 : decode cX10_personByEntries 65 = .ok (.iconst 0, 1) := by decide +kernel
theorem dX10_personByEntries_55 : decode cX10_personByEntries 55 = .ok (.iload 4, 2) := by decide +kernel
theorem dX10_personByEntries_57 : decode cX10_personByEntries 57 = .ok (.iload_n 2, 1) := by decide +kernel
theorem dX10_personByEntries_58 : decode cX10_personByEntries 58 = .ok (.if_icmp .ge 7, 3) := by decide +kernel
theorem dX10_personByEntries_74 : decode cX10_personByEntries 74 = .ok (.iload_n 3, 1) := by decide +kernel
theorem dX10_personByEntries_75 : decode cX10_personByEntries 75 = .ok (.iload_n 1, 1) := by decide +kernel
theorem dX10_personByEntries_76 : decode cX10_personByEntries 76 = .ok (.if_icmp .ne 10, 3) := by decide +kernel
theorem dX10_personByEntries_86 : decode cX10_personByEntries 86 = .ok (.iinc 2 1, 3) := by decide +kernel
theorem dX10_personByEntries_89 : decode cX10_personByEntries 89 = .ok (.goto (-87), 3) := by decide +kernel
theorem dX10_personByEntries_79 : decode cX10_personByEntries 79 = .ok (.aload_n 0, 1) := by decide +kernel
theorem dX10_personByEntries_80 : decode cX10_personByEntries 80 = .ok (.iconst 0, 1) := by decide +kernel
theorem dX10_personByEntries_81 : decode cX10_personByEntries 81 = .ok (.putfield 38, 3) := by decide +kernel
theorem dX10_personByEntries_84 : decode cX10_personByEntries 84 = .ok (.iload_n 2, 1) := by decide +kernel
theorem dX10_personByEntries_85 : decode cX10_personByEntries 85 = .ok (.ireturn, 1) := by decide +kernel
def lp_X10_personByEntries_17 (d : MoV) (rk : Int32) (x2 : Int32) : Nat → Int32 → Int32 → Int32 × Int32
  | 0, x4, x3 => (x4, x3)
  | n + 1, x4, x3 => (if (d.1 (3 : Int32).toNatClampNeg) ≤ x4 then (x4, x3) else (let y_7 : Int32 := ((f_X10_ofPerson d x4 (1 : Int32)) - (f_X10_ofPerson d x2 (1 : Int32))); (if (0 : Int32) < y_7 then (lp_X10_personByEntries_17 d rk x2 n (x4 + 1) (x3 + (1 : Int32))) else (if y_7 = (0 : Int32) then (if x2 ≤ x4 then (lp_X10_personByEntries_17 d rk x2 n (x4 + 1) (x3 + (0 : Int32))) else (lp_X10_personByEntries_17 d rk x2 n (x4 + 1) (x3 + (1 : Int32)))) else (lp_X10_personByEntries_17 d rk x2 n (x4 + 1) (x3 + (0 : Int32)))))))
def okl_lp_X10_personByEntries_17 (d : MoV) (rk : Int32) (x2 : Int32) : Nat → Int32 → Int32 → Prop
  | 0, _, _ => True
  | n + 1, x4, x3 => (if (d.1 (3 : Int32).toNatClampNeg) ≤ x4 then True else (ok_X10_ofPerson d x4 (1 : Int32) ∧ (ok_X10_ofPerson d x2 (1 : Int32) ∧ (let y_7 : Int32 := ((f_X10_ofPerson d x4 (1 : Int32)) - (f_X10_ofPerson d x2 (1 : Int32))); (if (0 : Int32) < y_7 then (okl_lp_X10_personByEntries_17 d rk x2 n (x4 + 1) (x3 + (1 : Int32))) else (if y_7 = (0 : Int32) then (if x2 ≤ x4 then (okl_lp_X10_personByEntries_17 d rk x2 n (x4 + 1) (x3 + (0 : Int32))) else (okl_lp_X10_personByEntries_17 d rk x2 n (x4 + 1) (x3 + (1 : Int32)))) else (okl_lp_X10_personByEntries_17 d rk x2 n (x4 + 1) (x3 + (0 : Int32)))))))))
def lp_X10_personByEntries_2 (d : MoV) (rk : Int32) : Nat → Int32 → Int32 × MoV
  | 0, _ => (0, d)
  | n + 1, x2 => (if (d.1 (3 : Int32).toNatClampNeg) ≤ x2 then ((0 : Int32), (mo5 d (1 : Int32))) else (let r_11 : Int32 × Int32 := (lp_X10_personByEntries_17 d rk x2 ((((d.1 (3 : Int32).toNatClampNeg)).toInt - ((0 : Int32)).toInt).toNat + 1) (0 : Int32) (0 : Int32)); (if r_11.2 = rk then (x2, (mo5 d (0 : Int32))) else (lp_X10_personByEntries_2 d rk n (x2 + 1)))))
def okl_lp_X10_personByEntries_2 (d : MoV) (rk : Int32) : Nat → Int32 → Prop
  | 0, _ => True
  | n + 1, x2 => (if (d.1 (3 : Int32).toNatClampNeg) ≤ x2 then True else (okl_lp_X10_personByEntries_17 d rk x2 ((((d.1 (3 : Int32).toNatClampNeg)).toInt - ((0 : Int32)).toInt).toNat + 1) (0 : Int32) (0 : Int32) ∧ (let r_11 : Int32 × Int32 := (lp_X10_personByEntries_17 d rk x2 ((((d.1 (3 : Int32).toNatClampNeg)).toInt - ((0 : Int32)).toInt).toNat + 1) (0 : Int32) (0 : Int32)); (if r_11.2 = rk then True else (okl_lp_X10_personByEntries_2 d rk n (x2 + 1))))))
def f_X10_personByEntries (d : MoV) (rk : Int32) : Int32 × MoV := (lp_X10_personByEntries_2 d rk ((((d.1 (3 : Int32).toNatClampNeg)).toInt - ((0 : Int32)).toInt).toNat + 1) (0 : Int32))
def ok_X10_personByEntries (d : MoV) (rk : Int32) : Prop := (okl_lp_X10_personByEntries_2 d rk ((((d.1 (3 : Int32).toNatClampNeg)).toInt - ((0 : Int32)).toInt).toNat + 1) (0 : Int32))
set_option maxHeartbeats 4000000 in
set_option maxRecDepth 100000 in
theorem c_X10_personByEntries (l : Launch) (G : GG) (dh0 : Nat) (dh1 : Nat) (dh2 : Nat) (dh3 : Nat) (dh4 : Nat) (dh5 : Nat) (dh6 : Nat) (dh7 : Nat) (sz : Nat) (d : MoV) (rk : Int32) (hok : ok_X10_personByEntries d rk) : wMet l yX10_personByEntries cX10_personByEntries 6 (some .int) 2 0 0 G (fl [wMo G dh0 dh1 dh2 dh3 dh4 dh5 dh6 dh7 d]) [.ref dh0, .int rk] sz (fun u : Int32 × MoV => some (.int u.1)) (fun u : Int32 × MoV => u = f_X10_personByEntries d rk) (fun u : Int32 × MoV => fl [wMo G dh0 dh1 dh2 dh3 dh4 dh5 dh6 dh7 u.2]) := by
  refine w_start (by decide +kernel) (Nat.le_of_ble_eq_true rfl) ?_
  intro p e s m below meth c A hx hb hr hml hts hown hlk hin hP hD hA hK hST ls hl
  have hS : va_S A s.heap s.heap [] := va_S.rf
  have hown : s.vm.findClass RX10 = some m.cls := hown
  have hl : lv_has ls 6 [(0, .ref dh0), (1, .int rk)] := hl
  have hF : f_X10_personByEntries d rk = (lp_X10_personByEntries_2 d rk ((((d.1 (3 : Int32).toNatClampNeg)).toInt - ((0 : Int32)).toInt).toNat + 1) (0 : Int32)) := rfl
  have hok : (okl_lp_X10_personByEntries_2 d rk ((((d.1 (3 : Int32).toNatClampNeg)).toInt - ((0 : Int32)).toInt).toNat + 1) (0 : Int32)) := hok
  refine lv_iconst (v := (0 : Int32)) hx hb dX10_personByEntries_0 (by decide) ?_
  refine lv_istore_n (lv' := [(2, .int (0 : Int32)), (0, .ref dh0), (1, .int rk)]) hx hb dX10_personByEntries_1 rfl hl (by decide) rfl (fun ls hl => ?_)
  have L2 : ∀ (n : Nat) (x2 : Int32) (ls : Array Slot), lv_has ls 6 [(2, .int x2), (0, .ref dh0), (1, .int rk)] → (upI x2 (d.1 (3 : Int32).toNatClampNeg) n) → f_X10_personByEntries d rk = lp_X10_personByEntries_2 d rk n x2 → okl_lp_X10_personByEntries_2 d rk n x2 → W p l e (rmd 2 0 0) s m ([.ref dh0, .int rk] : List Value).toArray below meth c s.heap [] 0 0 (MQ below (wQ (fun u : Int32 × MoV => some (.int u.1)) (fun u : Int32 × MoV => u = f_X10_personByEntries d rk) (fun u : Int32 × MoV => fl [wMo G dh0 dh1 dh2 dh3 dh4 dh5 dh6 dh7 u.2]) G.1 A) ([.ref dh0, .int rk] : List Value).toArray s 0 0 A) (F0 m 2 ls []) := by
    intro n
    induction n with
    | zero => intro x2 ls hl hu; exact absurd hu (upI_0)
    | succ n ih =>
      intro x2 ls hl hu hF hok
      have hF : f_X10_personByEntries d rk = (if (d.1 (3 : Int32).toNatClampNeg) ≤ x2 then ((0 : Int32), (mo5 d (1 : Int32))) else (let r_11 : Int32 × Int32 := (lp_X10_personByEntries_17 d rk x2 ((((d.1 (3 : Int32).toNatClampNeg)).toInt - ((0 : Int32)).toInt).toNat + 1) (0 : Int32) (0 : Int32)); (if r_11.2 = rk then (x2, (mo5 d (0 : Int32))) else (lp_X10_personByEntries_2 d rk n (x2 + 1))))) := hF
      have hok : (if (d.1 (3 : Int32).toNatClampNeg) ≤ x2 then True else (okl_lp_X10_personByEntries_17 d rk x2 ((((d.1 (3 : Int32).toNatClampNeg)).toInt - ((0 : Int32)).toInt).toNat + 1) (0 : Int32) (0 : Int32) ∧ (let r_11 : Int32 × Int32 := (lp_X10_personByEntries_17 d rk x2 ((((d.1 (3 : Int32).toNatClampNeg)).toInt - ((0 : Int32)).toInt).toNat + 1) (0 : Int32) (0 : Int32)); (if r_11.2 = rk then True else (okl_lp_X10_personByEntries_2 d rk n (x2 + 1)))))) := hok
      refine lv_iload_n hx hb dX10_personByEntries_2 rfl (lv_at hl 0 rfl) ?_
      refine lv_aload_n hx hb dX10_personByEntries_3 rfl (lv_at hl 1 rfl) ?_
      refine va_get (D := G.1) (ci := 12) (v := .ref dh1) (C := RX10) (T := TX10) (N := 17) hx hb hts uws_X10 hown hK hP 0 rfl rfl 0 (by decide) (hts _ u_1680) (fun _ h9 => h9) rfl dX10_personByEntries_4 ?_
      refine lv_iconst (v := (3 : Int32)) hx hb dX10_personByEntries_7 (by decide) ?_
      refine va_iald hx hb hK hP 1 0 rfl rfl (vp_in_nI (n := 3) (by decide) (by decide)) dX10_personByEntries_8 ?_
      refine lv_icmp_ge (tgt := 92) hx hb dX10_personByEntries_9 (by decide) (fun c_1 => ?_) (fun c_1 => ?_)
      · have hF := hF.trans (if_pos c_1)
        have hok := Eq.mp (if_pos c_1) hok
        refine lv_aload_n hx hb dX10_personByEntries_92 rfl (lv_at hl 1 rfl) ?_
        refine lv_iconst (v := (1 : Int32)) hx hb dX10_personByEntries_93 (by decide) ?_
        refine va_put (D := G.1) (ci := 12) (v := .int (1 : Int32)) (ty := .int) (C := RX10) (T := TX10) (N := 17) hx hb hts uws_X10 tyX10 tyX10_ok nmX10 hown hK hP hD hS 0 rfl rfl 5 (by decide) (hts _ u_1685) (fun _ h9 => h9) rfl (by decide +kernel) rfl rfl (Nat.le_of_ble_eq_true rfl) dX10_personByEntries_94 (fun H locs hP hD hS => ?_)
        have hP : va_P G.1 vwCl (fl [wMo G dh0 dh1 dh2 dh3 dh4 dh5 dh6 dh7 (mo5 d (1 : Int32))]) H := hP
        have hD : va_D A (fl [wMo G dh0 dh1 dh2 dh3 dh4 dh5 dh6 dh7 (mo5 d (1 : Int32))]) := hD
        refine lv_iconst (v := (0 : Int32)) hx hb dX10_personByEntries_97 (by decide) ?_
        exact w_ret (u := ((0 : Int32), (mo5 d (1 : Int32)))) hx hb hr hlk rfl hS rfl hF.symm hP hD (Nat.le_of_ble_eq_true rfl) (Nat.le_of_ble_eq_true rfl) dX10_personByEntries_98
      · have hF := hF.trans (if_neg c_1)
        have hok := Eq.mp (if_neg c_1) hok
        refine lv_iconst (v := (0 : Int32)) hx hb dX10_personByEntries_12 (by decide) ?_
        refine lv_istore_n (lv' := [(3, .int (0 : Int32)), (2, .int x2), (0, .ref dh0), (1, .int rk)]) hx hb dX10_personByEntries_13 rfl hl (by decide) rfl (fun ls hl => ?_)
        refine lv_iconst (v := (0 : Int32)) hx hb dX10_personByEntries_14 (by decide) ?_
        refine lv_istore (lv' := [(4, .int (0 : Int32)), (3, .int (0 : Int32)), (2, .int x2), (0, .ref dh0), (1, .int rk)]) hx hb dX10_personByEntries_15 hl (by decide) rfl (fun ls hl => ?_)
        have hkI := hok.1
        have hok := hok.2
        have K17 : ∀ (r_11 : Int32 × Int32), r_11 = (lp_X10_personByEntries_17 d rk x2 ((((d.1 (3 : Int32).toNatClampNeg)).toInt - ((0 : Int32)).toInt).toNat + 1) (0 : Int32) (0 : Int32)) → ∀ (ls : Array Slot), lv_has ls 6 [(4, .int r_11.1), (3, .int r_11.2), (2, .int x2), (0, .ref dh0), (1, .int rk)] → W p l e (rmd 2 0 0) s m ([.ref dh0, .int rk] : List Value).toArray below meth c s.heap [] 0 0 (MQ below (wQ (fun u : Int32 × MoV => some (.int u.1)) (fun u : Int32 × MoV => u = f_X10_personByEntries d rk) (fun u : Int32 × MoV => fl [wMo G dh0 dh1 dh2 dh3 dh4 dh5 dh6 dh7 u.2]) G.1 A) ([.ref dh0, .int rk] : List Value).toArray s 0 0 A) (F0 m 74 ls []) := by
          intro r_11 er_11 ls hl
          have hF : f_X10_personByEntries d rk = (if r_11.2 = rk then (x2, (mo5 d (0 : Int32))) else (lp_X10_personByEntries_2 d rk n (x2 + 1))) := by subst er_11; exact hF
          have hok : (if r_11.2 = rk then True else (okl_lp_X10_personByEntries_2 d rk n (x2 + 1))) := by subst er_11; exact hok
          refine lv_iload_n hx hb dX10_personByEntries_74 rfl (lv_at hl 1 rfl) ?_
          refine lv_iload_n hx hb dX10_personByEntries_75 rfl (lv_at hl 4 rfl) ?_
          refine lv_icmp_ne (tgt := 86) hx hb dX10_personByEntries_76 (by decide) (fun c_12 => ?_) (fun c_12 => ?_)
          · have hF := hF.trans (if_neg c_12)
            have hok := Eq.mp (if_neg c_12) hok
            refine lv_iinc (v := (x2 + 1)) (lv' := [(2, .int (x2 + 1)), (4, .int r_11.1), (3, .int r_11.2), (0, .ref dh0), (1, .int rk)]) hx hb dX10_personByEntries_86 hl (k := 2) rfl rfl (by decide) rfl (fun ls hl => ?_)
            refine lv_goto (tgt := 2) hx hb dX10_personByEntries_89 (by decide) ?_
            exact ih (x2 + 1) ls (lv_sub hl [0, 3, 4] rfl) (upI_s (Int32.not_le.mp c_1) hu) hF hok
          · have hF := hF.trans (if_pos c_12)
            have hok := Eq.mp (if_pos c_12) hok
            refine lv_aload_n hx hb dX10_personByEntries_79 rfl (lv_at hl 3 rfl) ?_
            refine lv_iconst (v := (0 : Int32)) hx hb dX10_personByEntries_80 (by decide) ?_
            refine va_put (D := G.1) (ci := 12) (v := .int (0 : Int32)) (ty := .int) (C := RX10) (T := TX10) (N := 17) hx hb hts uws_X10 tyX10 tyX10_ok nmX10 hown hK hP hD hS 0 rfl rfl 5 (by decide) (hts _ u_1685) (fun _ h9 => h9) rfl (by decide +kernel) rfl rfl (Nat.le_of_ble_eq_true rfl) dX10_personByEntries_81 (fun H locs hP hD hS => ?_)
            have hP : va_P G.1 vwCl (fl [wMo G dh0 dh1 dh2 dh3 dh4 dh5 dh6 dh7 (mo5 d (0 : Int32))]) H := hP
            have hD : va_D A (fl [wMo G dh0 dh1 dh2 dh3 dh4 dh5 dh6 dh7 (mo5 d (0 : Int32))]) := hD
            refine lv_iload_n hx hb dX10_personByEntries_84 rfl (lv_at hl 2 rfl) ?_
            exact w_ret (u := (x2, (mo5 d (0 : Int32)))) hx hb hr hlk rfl hS rfl hF.symm hP hD (Nat.le_of_ble_eq_true rfl) (Nat.le_of_ble_eq_true rfl) dX10_personByEntries_85
        have L17 : ∀ (n : Nat) (x4 : Int32) (x3 : Int32) (ls : Array Slot), lv_has ls 6 [(4, .int x4), (3, .int x3), (2, .int x2), (0, .ref dh0), (1, .int rk)] → (upI x4 (d.1 (3 : Int32).toNatClampNeg) n) → (lp_X10_personByEntries_17 d rk x2 ((((d.1 (3 : Int32).toNatClampNeg)).toInt - ((0 : Int32)).toInt).toNat + 1) (0 : Int32) (0 : Int32)) = lp_X10_personByEntries_17 d rk x2 n x4 x3 → okl_lp_X10_personByEntries_17 d rk x2 n x4 x3 → W p l e (rmd 2 0 0) s m ([.ref dh0, .int rk] : List Value).toArray below meth c s.heap [] 0 0 (MQ below (wQ (fun u : Int32 × MoV => some (.int u.1)) (fun u : Int32 × MoV => u = f_X10_personByEntries d rk) (fun u : Int32 × MoV => fl [wMo G dh0 dh1 dh2 dh3 dh4 dh5 dh6 dh7 u.2]) G.1 A) ([.ref dh0, .int rk] : List Value).toArray s 0 0 A) (F0 m 17 ls []) := by
          intro n
          induction n with
          | zero => intro x4 x3 ls hl hu; exact absurd hu (upI_0)
          | succ n ih =>
            intro x4 x3 ls hl hu hI hok
            have hI : (lp_X10_personByEntries_17 d rk x2 ((((d.1 (3 : Int32).toNatClampNeg)).toInt - ((0 : Int32)).toInt).toNat + 1) (0 : Int32) (0 : Int32)) = (if (d.1 (3 : Int32).toNatClampNeg) ≤ x4 then (x4, x3) else (let y_7 : Int32 := ((f_X10_ofPerson d x4 (1 : Int32)) - (f_X10_ofPerson d x2 (1 : Int32))); (if (0 : Int32) < y_7 then (lp_X10_personByEntries_17 d rk x2 n (x4 + 1) (x3 + (1 : Int32))) else (if y_7 = (0 : Int32) then (if x2 ≤ x4 then (lp_X10_personByEntries_17 d rk x2 n (x4 + 1) (x3 + (0 : Int32))) else (lp_X10_personByEntries_17 d rk x2 n (x4 + 1) (x3 + (1 : Int32)))) else (lp_X10_personByEntries_17 d rk x2 n (x4 + 1) (x3 + (0 : Int32))))))) := hI
            have hok : (if (d.1 (3 : Int32).toNatClampNeg) ≤ x4 then True else (ok_X10_ofPerson d x4 (1 : Int32) ∧ (ok_X10_ofPerson d x2 (1 : Int32) ∧ (let y_7 : Int32 := ((f_X10_ofPerson d x4 (1 : Int32)) - (f_X10_ofPerson d x2 (1 : Int32))); (if (0 : Int32) < y_7 then (okl_lp_X10_personByEntries_17 d rk x2 n (x4 + 1) (x3 + (1 : Int32))) else (if y_7 = (0 : Int32) then (if x2 ≤ x4 then (okl_lp_X10_personByEntries_17 d rk x2 n (x4 + 1) (x3 + (0 : Int32))) else (okl_lp_X10_personByEntries_17 d rk x2 n (x4 + 1) (x3 + (1 : Int32)))) else (okl_lp_X10_personByEntries_17 d rk x2 n (x4 + 1) (x3 + (0 : Int32))))))))) := hok
            refine lv_iload hx hb dX10_personByEntries_17 (lv_at hl 0 rfl) ?_
            refine lv_aload_n hx hb dX10_personByEntries_19 rfl (lv_at hl 3 rfl) ?_
            refine va_get (D := G.1) (ci := 12) (v := .ref dh1) (C := RX10) (T := TX10) (N := 17) hx hb hts uws_X10 hown hK hP 0 rfl rfl 0 (by decide) (hts _ u_1680) (fun _ h9 => h9) rfl dX10_personByEntries_20 ?_
            refine lv_iconst (v := (3 : Int32)) hx hb dX10_personByEntries_23 (by decide) ?_
            refine va_iald hx hb hK hP 1 0 rfl rfl (vp_in_nI (n := 3) (by decide) (by decide)) dX10_personByEntries_24 ?_
            refine lv_icmp_ge (tgt := 74) hx hb dX10_personByEntries_25 (by decide) (fun c_2 => ?_) (fun c_2 => ?_)
            · have hI := hI.trans (if_pos c_2)
              have hok := Eq.mp (if_pos c_2) hok
              exact K17 _ hI.symm ls (lv_sub hl [0, 1, 2, 3, 4] rfl)
            · have hI := hI.trans (if_neg c_2)
              have hok := Eq.mp (if_neg c_2) hok
              refine lv_aload_n hx hb dX10_personByEntries_28 rfl (lv_at hl 3 rfl) ?_
              refine lv_iload hx hb dX10_personByEntries_29 (lv_at hl 0 rfl) ?_
              refine lv_iconst (v := (1 : Int32)) hx hb dX10_personByEntries_31 (by decide) ?_
              have k_3 := hok.1
              have hok := hok.2
              refine r_V (own := RX10) (v := (some (.int (f_X10_ofPerson d x4 (1 : Int32))))) (st1 := [.int (f_X10_ofPerson d x4 (1 : Int32))]) (As := [.int x4, .int (1 : Int32)]) (rest := []) (c_X10_ofPerson l G dh0 dh1 dh2 dh3 dh4 dh5 dh6 dh7 d x4 (1 : Int32) k_3) ⟨hx, hb, hml, hown, hts⟩ g_X10_109 hdv_X10_ofPerson hK hST hS hP [0, 1, 2, 3, 4, 5, 6, 7] rfl (k0 := 0) rfl rfl rfl ⟨Nat.le_of_ble_eq_true rfl, Nat.le_of_ble_eq_true rfl⟩ ⟨Nat.le_of_ble_eq_true rfl, Nat.le_of_ble_eq_true rfl⟩ rfl hl.1 rfl (Nat.le_of_ble_eq_true rfl) dX10_personByEntries_32 rfl (fun b_4 => ?_)
              refine lv_aload_n hx hb dX10_personByEntries_35 rfl (lv_at hl 3 rfl) ?_
              refine lv_iload_n hx hb dX10_personByEntries_36 rfl (lv_at hl 2 rfl) ?_
              refine lv_iconst (v := (1 : Int32)) hx hb dX10_personByEntries_37 (by decide) ?_
              have k_5 := hok.1
              have hok := hok.2
              refine r_V (own := RX10) (v := (some (.int (f_X10_ofPerson d x2 (1 : Int32))))) (st1 := [.int (f_X10_ofPerson d x2 (1 : Int32)), .int (f_X10_ofPerson d x4 (1 : Int32))]) (As := [.int x2, .int (1 : Int32)]) (rest := [.int (f_X10_ofPerson d x4 (1 : Int32))]) (c_X10_ofPerson l G dh0 dh1 dh2 dh3 dh4 dh5 dh6 dh7 d x2 (1 : Int32) k_5) ⟨hx, hb, hml, hown, hts⟩ g_X10_109 hdv_X10_ofPerson hK hST hS hP [0, 1, 2, 3, 4, 5, 6, 7] rfl (k0 := 0) rfl rfl rfl ⟨Nat.le_of_ble_eq_true rfl, Nat.le_of_ble_eq_true rfl⟩ ⟨Nat.le_of_ble_eq_true rfl, Nat.le_of_ble_eq_true rfl⟩ rfl hl.1 rfl (Nat.le_of_ble_eq_true rfl) dX10_personByEntries_38 rfl (fun b_6 => ?_)
              refine lv_isub hx hb dX10_personByEntries_41 ?_
              refine lv_topi (fun y_7 ey_7 => ?_)
              have hI : (lp_X10_personByEntries_17 d rk x2 ((((d.1 (3 : Int32).toNatClampNeg)).toInt - ((0 : Int32)).toInt).toNat + 1) (0 : Int32) (0 : Int32)) = (if (0 : Int32) < y_7 then (lp_X10_personByEntries_17 d rk x2 n (x4 + 1) (x3 + (1 : Int32))) else (if y_7 = (0 : Int32) then (if x2 ≤ x4 then (lp_X10_personByEntries_17 d rk x2 n (x4 + 1) (x3 + (0 : Int32))) else (lp_X10_personByEntries_17 d rk x2 n (x4 + 1) (x3 + (1 : Int32)))) else (lp_X10_personByEntries_17 d rk x2 n (x4 + 1) (x3 + (0 : Int32))))) := by subst ey_7; exact hI
              have hok : (if (0 : Int32) < y_7 then (okl_lp_X10_personByEntries_17 d rk x2 n (x4 + 1) (x3 + (1 : Int32))) else (if y_7 = (0 : Int32) then (if x2 ≤ x4 then (okl_lp_X10_personByEntries_17 d rk x2 n (x4 + 1) (x3 + (0 : Int32))) else (okl_lp_X10_personByEntries_17 d rk x2 n (x4 + 1) (x3 + (1 : Int32)))) else (okl_lp_X10_personByEntries_17 d rk x2 n (x4 + 1) (x3 + (0 : Int32))))) := by subst ey_7; exact hok
              refine lv_istore (lv' := [(5, .int y_7), (4, .int x4), (3, .int x3), (2, .int x2), (0, .ref dh0), (1, .int rk)]) hx hb dX10_personByEntries_42 hl (by decide) rfl (fun ls hl => ?_)
              refine lv_iload_n hx hb dX10_personByEntries_44 rfl (lv_at hl 2 rfl) ?_
              refine lv_iload hx hb dX10_personByEntries_45 (lv_at hl 0 rfl) ?_
              refine lv_if_gt (tgt := 61) hx hb dX10_personByEntries_47 (by decide) (fun c_8 => ?_) (fun c_8 => ?_)
              · have hI := hI.trans (if_pos c_8)
                have hok := Eq.mp (if_pos c_8) hok
                refine lv_iconst (v := (1 : Int32)) hx hb dX10_personByEntries_61 (by decide) ?_
                refine lv_goto (tgt := 66) hx hb dX10_personByEntries_62 (by decide) ?_
                refine lv_iadd hx hb dX10_personByEntries_66 ?_
                refine lv_istore_n (lv' := [(3, .int (x3 + (1 : Int32))), (5, .int y_7), (4, .int x4), (2, .int x2), (0, .ref dh0), (1, .int rk)]) hx hb dX10_personByEntries_67 rfl hl (by decide) rfl (fun ls hl => ?_)
                refine lv_iinc (v := (x4 + 1)) (lv' := [(4, .int (x4 + 1)), (3, .int (x3 + (1 : Int32))), (5, .int y_7), (2, .int x2), (0, .ref dh0), (1, .int rk)]) hx hb dX10_personByEntries_68 hl (k := 2) rfl rfl (by decide) rfl (fun ls hl => ?_)
                refine lv_goto (tgt := 17) hx hb dX10_personByEntries_71 (by decide) ?_
                exact ih (x4 + 1) (x3 + (1 : Int32)) ls (lv_sub hl [0, 1, 3, 4, 5] rfl) (upI_s (Int32.not_le.mp c_2) hu) hI hok
              · have hI := hI.trans (if_neg c_8)
                have hok := Eq.mp (if_neg c_8) hok
                refine lv_iload hx hb dX10_personByEntries_50 (lv_at hl 0 rfl) ?_
                refine lv_if_ne (tgt := 65) hx hb dX10_personByEntries_52 (by decide) (fun c_9 => ?_) (fun c_9 => ?_)
                · have hI := hI.trans (if_neg c_9)
                  have hok := Eq.mp (if_neg c_9) hok
                  refine lv_iconst (v := (0 : Int32)) hx hb dX10_personByEntries_65 (by decide) ?_
                  refine lv_iadd hx hb dX10_personByEntries_66 ?_
                  refine lv_istore_n (lv' := [(3, .int (x3 + (0 : Int32))), (5, .int y_7), (4, .int x4), (2, .int x2), (0, .ref dh0), (1, .int rk)]) hx hb dX10_personByEntries_67 rfl hl (by decide) rfl (fun ls hl => ?_)
                  refine lv_iinc (v := (x4 + 1)) (lv' := [(4, .int (x4 + 1)), (3, .int (x3 + (0 : Int32))), (5, .int y_7), (2, .int x2), (0, .ref dh0), (1, .int rk)]) hx hb dX10_personByEntries_68 hl (k := 2) rfl rfl (by decide) rfl (fun ls hl => ?_)
                  refine lv_goto (tgt := 17) hx hb dX10_personByEntries_71 (by decide) ?_
                  exact ih (x4 + 1) (x3 + (0 : Int32)) ls (lv_sub hl [0, 1, 3, 4, 5] rfl) (upI_s (Int32.not_le.mp c_2) hu) hI hok
                · have hI := hI.trans (if_pos c_9)
                  have hok := Eq.mp (if_pos c_9) hok
                  refine lv_iload hx hb dX10_personByEntries_55 (lv_at hl 1 rfl) ?_
                  refine lv_iload_n hx hb dX10_personByEntries_57 rfl (lv_at hl 3 rfl) ?_
                  refine lv_icmp_ge (tgt := 65) hx hb dX10_personByEntries_58 (by decide) (fun c_10 => ?_) (fun c_10 => ?_)
                  · have hI := hI.trans (if_pos c_10)
                    have hok := Eq.mp (if_pos c_10) hok
                    refine lv_iconst (v := (0 : Int32)) hx hb dX10_personByEntries_65 (by decide) ?_
                    refine lv_iadd hx hb dX10_personByEntries_66 ?_
                    refine lv_istore_n (lv' := [(3, .int (x3 + (0 : Int32))), (5, .int y_7), (4, .int x4), (2, .int x2), (0, .ref dh0), (1, .int rk)]) hx hb dX10_personByEntries_67 rfl hl (by decide) rfl (fun ls hl => ?_)
                    refine lv_iinc (v := (x4 + 1)) (lv' := [(4, .int (x4 + 1)), (3, .int (x3 + (0 : Int32))), (5, .int y_7), (2, .int x2), (0, .ref dh0), (1, .int rk)]) hx hb dX10_personByEntries_68 hl (k := 2) rfl rfl (by decide) rfl (fun ls hl => ?_)
                    refine lv_goto (tgt := 17) hx hb dX10_personByEntries_71 (by decide) ?_
                    exact ih (x4 + 1) (x3 + (0 : Int32)) ls (lv_sub hl [0, 1, 3, 4, 5] rfl) (upI_s (Int32.not_le.mp c_2) hu) hI hok
                  · have hI := hI.trans (if_neg c_10)
                    have hok := Eq.mp (if_neg c_10) hok
                    refine lv_iconst (v := (1 : Int32)) hx hb dX10_personByEntries_61 (by decide) ?_
                    refine lv_goto (tgt := 66) hx hb dX10_personByEntries_62 (by decide) ?_
                    refine lv_iadd hx hb dX10_personByEntries_66 ?_
                    refine lv_istore_n (lv' := [(3, .int (x3 + (1 : Int32))), (5, .int y_7), (4, .int x4), (2, .int x2), (0, .ref dh0), (1, .int rk)]) hx hb dX10_personByEntries_67 rfl hl (by decide) rfl (fun ls hl => ?_)
                    refine lv_iinc (v := (x4 + 1)) (lv' := [(4, .int (x4 + 1)), (3, .int (x3 + (1 : Int32))), (5, .int y_7), (2, .int x2), (0, .ref dh0), (1, .int rk)]) hx hb dX10_personByEntries_68 hl (k := 2) rfl rfl (by decide) rfl (fun ls hl => ?_)
                    refine lv_goto (tgt := 17) hx hb dX10_personByEntries_71 (by decide) ?_
                    exact ih (x4 + 1) (x3 + (1 : Int32)) ls (lv_sub hl [0, 1, 3, 4, 5] rfl) (upI_s (Int32.not_le.mp c_2) hu) hI hok
        exact L17 ((((d.1 (3 : Int32).toNatClampNeg)).toInt - ((0 : Int32)).toInt).toNat + 1) (0 : Int32) (0 : Int32) ls (lv_sub hl [0, 1, 2, 3, 4] rfl) (upI_i) rfl hkI
  exact L2 ((((d.1 (3 : Int32).toNatClampNeg)).toInt - ((0 : Int32)).toInt).toNat + 1) (0 : Int32) ls (lv_sub hl [0, 1, 2] rfl) (upI_i) hF hok
theorem dX10_phaseOn_0 : decode cX10_phaseOn 0 = .ok (.aload_n 0, 1) := by decide +kernel
theorem dX10_phaseOn_1 : decode cX10_phaseOn 1 = .ok (.iload_n 1, 1) := by decide +kernel
theorem dX10_phaseOn_2 : decode cX10_phaseOn 2 = .ok (.iconst 0, 1) := by decide +kernel
theorem dX10_phaseOn_3 : decode cX10_phaseOn 3 = .ok (.sipush 9999, 3) := by decide +kernel
theorem dX10_phaseOn_6 : decode cX10_phaseOn 6 = .ok (.invokestatic 48, 3) := by decide +kernel
theorem dX10_phaseOn_9 : decode cX10_phaseOn 9 = .ok (.ifCond .ne 7, 3) := by decide +kernel
theorem dX10_phaseOn_16 : decode cX10_phaseOn 16 = .ok (.iconst 0, 1) := by decide +kernel
theorem dX10_phaseOn_17 : decode cX10_phaseOn 17 = .ok (.iconst 1, 1) := by decide +kernel
theorem dX10_phaseOn_18 : decode cX10_phaseOn 18 = .ok (.invokevirtual 63, 3) := by decide +kernel
theorem dX10_phaseOn_21 : decode cX10_phaseOn 21 = .ok (.ifCond .eq 7, 3) := by decide +kernel
theorem dX10_phaseOn_28 : decode cX10_phaseOn 28 = .ok (.aload_n 0, 1) := by decide +kernel
theorem dX10_phaseOn_29 : decode cX10_phaseOn 29 = .ok (.iload_n 1, 1) := by decide +kernel
theorem dX10_phaseOn_30 : decode cX10_phaseOn 30 = .ok (.invokevirtual 99, 3) := by decide +kernel
theorem dX10_phaseOn_33 : decode cX10_phaseOn 33 = .ok (.ireturn, 1) := by decide +kernel
theorem dX10_phaseOn_12 : decode cX10_phaseOn 12 = .ok (.iconst 1, 1) := by decide +kernel
theorem dX10_phaseOn_13 : decode cX10_phaseOn 13 = .ok (.goto 4, 3) := by decide +kernel
theorem dX10_phaseOn_24 : decode cX10_phaseOn 24 = .ok (.iconst 0, 1) := by decide +kernel
theorem dX10_phaseOn_25 : decode cX10_phaseOn 25 = .ok (.goto 8, 3) := by decide +kernel
def f_X10_phaseOn (d : MoV) (dy : Int32) : Int32 × MoV := (if (f_X10_isIn dy (0 : Int32) (9999 : Int32)) = (0 : Int32) then (let u_9 : MoV := (f_X10_isThrown d (1 : Int32) (1 : Int32)); ((0 : Int32), u_9)) else (let u_4 : MoV := (f_X10_isThrown d (0 : Int32) (1 : Int32)); ((f_X10_phase u_4 dy), u_4)))
def ok_X10_phaseOn (d : MoV) (dy : Int32) : Prop := (if (f_X10_isIn dy (0 : Int32) (9999 : Int32)) = (0 : Int32) then True else (let u_4 : MoV := (f_X10_isThrown d (0 : Int32) (1 : Int32)); (ok_X10_phase u_4 dy ∧ True)))
set_option maxHeartbeats 4000000 in
set_option maxRecDepth 100000 in
theorem c_X10_phaseOn (l : Launch) (G : GG) (dh0 : Nat) (dh1 : Nat) (dh2 : Nat) (dh3 : Nat) (dh4 : Nat) (dh5 : Nat) (dh6 : Nat) (dh7 : Nat) (sz : Nat) (d : MoV) (dy : Int32) (hok : ok_X10_phaseOn d dy) : wMet l yX10_phaseOn cX10_phaseOn 2 (some .int) 2 0 0 G (fl [wMo G dh0 dh1 dh2 dh3 dh4 dh5 dh6 dh7 d]) [.ref dh0, .int dy] sz (fun u : Int32 × MoV => some (.int u.1)) (fun u : Int32 × MoV => u = f_X10_phaseOn d dy) (fun u : Int32 × MoV => fl [wMo G dh0 dh1 dh2 dh3 dh4 dh5 dh6 dh7 u.2]) := by
  refine w_start (by decide +kernel) (Nat.le_of_ble_eq_true rfl) ?_
  intro p e s m below meth c A hx hb hr hml hts hown hlk hin hP hD hA hK hST ls hl
  have hS : va_S A s.heap s.heap [] := va_S.rf
  have hown : s.vm.findClass RX10 = some m.cls := hown
  have hl : lv_has ls 2 [(0, .ref dh0), (1, .int dy)] := hl
  have hF : f_X10_phaseOn d dy = (if (f_X10_isIn dy (0 : Int32) (9999 : Int32)) = (0 : Int32) then (let u_9 : MoV := (f_X10_isThrown d (1 : Int32) (1 : Int32)); ((0 : Int32), u_9)) else (let u_4 : MoV := (f_X10_isThrown d (0 : Int32) (1 : Int32)); ((f_X10_phase u_4 dy), u_4))) := rfl
  have hok : (if (f_X10_isIn dy (0 : Int32) (9999 : Int32)) = (0 : Int32) then True else (let u_4 : MoV := (f_X10_isThrown d (0 : Int32) (1 : Int32)); (ok_X10_phase u_4 dy ∧ True))) := hok
  refine lv_aload_n hx hb dX10_phaseOn_0 rfl (lv_at hl 0 rfl) ?_
  refine lv_iload_n hx hb dX10_phaseOn_1 rfl (lv_at hl 1 rfl) ?_
  refine lv_iconst (v := (0 : Int32)) hx hb dX10_phaseOn_2 (by decide) ?_
  refine lv_sipush (v := (9999 : Int32)) hx hb dX10_phaseOn_3 (by decide) ?_
  refine r_S (own := RX10) (v := (some (.int (f_X10_isIn dy (0 : Int32) (9999 : Int32))))) (st1 := [.int (f_X10_isIn dy (0 : Int32) (9999 : Int32)), .ref dh0]) (As := [.int dy, .int (0 : Int32), .int (9999 : Int32)]) (rest := [.ref dh0]) (c_X10_isIn l G dy (0 : Int32) (9999 : Int32)) ⟨hx, hb, hml, hown, hts⟩ g_X10_48 hds_X10_isIn hK hST hS hP [] rfl ⟨Nat.le_of_ble_eq_true rfl, Nat.le_of_ble_eq_true rfl⟩ ⟨Nat.le_of_ble_eq_true rfl, Nat.le_of_ble_eq_true rfl⟩ rfl hl.1 rfl (Nat.le_of_ble_eq_true rfl) dX10_phaseOn_6 rfl (fun b_1 => ?_)
  refine lv_if_ne (tgt := 16) hx hb dX10_phaseOn_9 (by decide) (fun c_2 => ?_) (fun c_2 => ?_)
  · have hF := hF.trans (if_neg c_2)
    have hok := Eq.mp (if_neg c_2) hok
    refine lv_iconst (v := (0 : Int32)) hx hb dX10_phaseOn_16 (by decide) ?_
    refine lv_iconst (v := (1 : Int32)) hx hb dX10_phaseOn_17 (by decide) ?_
    refine w_V (own := RX10) (cs := [wMo G dh0 dh1 dh2 dh3 dh4 dh5 dh6 dh7 d]) (rs := []) (As := [.int (0 : Int32), .int (1 : Int32)]) (rest := []) (c_X10_isThrown l G dh0 dh1 dh2 dh3 dh4 dh5 dh6 dh7 s.heap.size d (0 : Int32) (1 : Int32) (rfl)) ⟨hx, hb, hml, hown, hts⟩ g_X10_63 hdv_X10_isThrown hK hST hS hP hD hA [0] [] rfl rfl rfl (k0 := 0) rfl rfl rfl ⟨Nat.le_of_ble_eq_true rfl, Nat.le_of_ble_eq_true rfl⟩ ⟨Nat.le_of_ble_eq_true rfl, Nat.le_of_ble_eq_true rfl⟩ rfl hl.1 rfl (Nat.le_of_ble_eq_true rfl) dX10_phaseOn_18 (fun u_4 H locs huu hP hD hS => ?_)
    have eu_4 := huu
    have hP : va_P G.1 vwCl (fl [wMo G dh0 dh1 dh2 dh3 dh4 dh5 dh6 dh7 u_4]) H := hP
    have hD : va_D A (fl [wMo G dh0 dh1 dh2 dh3 dh4 dh5 dh6 dh7 u_4]) := hD
    refine W.eq (g2 := F0 m 21 ls [.int (0 : Int32)]) rfl ?_
    have hF : f_X10_phaseOn d dy = ((f_X10_phase u_4 dy), u_4) := by subst eu_4; exact hF
    have hok : (ok_X10_phase u_4 dy ∧ True) := by subst eu_4; exact hok
    refine lv_if_eq (tgt := 28) hx hb dX10_phaseOn_21 (by decide) (fun c_5 => ?_) (fun c_5 => ?_)
    · refine lv_aload_n hx hb dX10_phaseOn_28 rfl (lv_at hl 0 rfl) ?_
      refine lv_iload_n hx hb dX10_phaseOn_29 rfl (lv_at hl 1 rfl) ?_
      have k_6 := hok.1
      have hok := hok.2
      refine r_V (own := RX10) (v := (some (.int (f_X10_phase u_4 dy)))) (st1 := [.int (f_X10_phase u_4 dy)]) (As := [.int dy]) (rest := []) (c_X10_phase l G dh0 dh1 dh2 dh3 dh4 dh5 dh6 dh7 u_4 dy k_6) ⟨hx, hb, hml, hown, hts⟩ g_X10_99 hdv_X10_phase hK hST hS hP [0, 1, 2, 3, 4, 5, 6, 7] rfl (k0 := 0) rfl rfl rfl ⟨Nat.le_of_ble_eq_true rfl, Nat.le_of_ble_eq_true rfl⟩ ⟨Nat.le_of_ble_eq_true rfl, Nat.le_of_ble_eq_true rfl⟩ rfl hl.1 rfl (Nat.le_of_ble_eq_true rfl) dX10_phaseOn_30 rfl (fun b_7 => ?_)
      exact w_ret (u := ((f_X10_phase u_4 dy), u_4)) hx hb hr hlk rfl hS rfl hF.symm hP hD (Nat.le_of_ble_eq_true rfl) (Nat.le_of_ble_eq_true rfl) dX10_phaseOn_33
    · exact absurd c_5 (by decide)
  · have hF := hF.trans (if_pos c_2)
    have hok := Eq.mp (if_pos c_2) hok
    refine lv_iconst (v := (1 : Int32)) hx hb dX10_phaseOn_12 (by decide) ?_
    refine lv_goto (tgt := 17) hx hb dX10_phaseOn_13 (by decide) ?_
    refine lv_iconst (v := (1 : Int32)) hx hb dX10_phaseOn_17 (by decide) ?_
    refine w_V (own := RX10) (cs := [wMo G dh0 dh1 dh2 dh3 dh4 dh5 dh6 dh7 d]) (rs := []) (As := [.int (1 : Int32), .int (1 : Int32)]) (rest := []) (c_X10_isThrown l G dh0 dh1 dh2 dh3 dh4 dh5 dh6 dh7 s.heap.size d (1 : Int32) (1 : Int32) (rfl)) ⟨hx, hb, hml, hown, hts⟩ g_X10_63 hdv_X10_isThrown hK hST hS hP hD hA [0] [] rfl rfl rfl (k0 := 0) rfl rfl rfl ⟨Nat.le_of_ble_eq_true rfl, Nat.le_of_ble_eq_true rfl⟩ ⟨Nat.le_of_ble_eq_true rfl, Nat.le_of_ble_eq_true rfl⟩ rfl hl.1 rfl (Nat.le_of_ble_eq_true rfl) dX10_phaseOn_18 (fun u_9 H locs huu hP hD hS => ?_)
    have eu_9 := huu
    have hP : va_P G.1 vwCl (fl [wMo G dh0 dh1 dh2 dh3 dh4 dh5 dh6 dh7 u_9]) H := hP
    have hD : va_D A (fl [wMo G dh0 dh1 dh2 dh3 dh4 dh5 dh6 dh7 u_9]) := hD
    refine W.eq (g2 := F0 m 21 ls [.int (1 : Int32)]) rfl ?_
    have hF : f_X10_phaseOn d dy = ((0 : Int32), u_9) := by subst eu_9; exact hF
    refine lv_if_eq (tgt := 28) hx hb dX10_phaseOn_21 (by decide) (fun c_10 => ?_) (fun c_10 => ?_)
    · exact absurd c_10 (by decide)
    · refine lv_iconst (v := (0 : Int32)) hx hb dX10_phaseOn_24 (by decide) ?_
      refine lv_goto (tgt := 33) hx hb dX10_phaseOn_25 (by decide) ?_
      exact w_ret (u := ((0 : Int32), u_9)) hx hb hr hlk rfl hS rfl hF.symm hP hD (Nat.le_of_ble_eq_true rfl) (Nat.le_of_ble_eq_true rfl) dX10_phaseOn_33
theorem dX10_daysUntilPhase_0 : decode cX10_daysUntilPhase 0 = .ok (.aload_n 0, 1) := by decide +kernel
theorem dX10_daysUntilPhase_1 : decode cX10_daysUntilPhase 1 = .ok (.iload_n 1, 1) := by decide +kernel
theorem dX10_daysUntilPhase_2 : decode cX10_daysUntilPhase 2 = .ok (.iconst 0, 1) := by decide +kernel
theorem dX10_daysUntilPhase_3 : decode cX10_daysUntilPhase 3 = .ok (.bipush 7, 2) := by decide +kernel
theorem dX10_daysUntilPhase_5 : decode cX10_daysUntilPhase 5 = .ok (.invokestatic 48, 3) := by decide +kernel
theorem dX10_daysUntilPhase_8 : decode cX10_daysUntilPhase 8 = .ok (.ifCond .ne 7, 3) := by decide +kernel
theorem dX10_daysUntilPhase_15 : decode cX10_daysUntilPhase 15 = .ok (.iconst 0, 1) := by decide +kernel
theorem dX10_daysUntilPhase_16 : decode cX10_daysUntilPhase 16 = .ok (.iconst 1, 1) := by decide +kernel
theorem dX10_daysUntilPhase_17 : decode cX10_daysUntilPhase 17 = .ok (.invokevirtual 63, 3) := by decide +kernel
theorem dX10_daysUntilPhase_20 : decode cX10_daysUntilPhase 20 = .ok (.ifCond .eq 5, 3) := by decide +kernel
theorem dX10_daysUntilPhase_25 : decode cX10_daysUntilPhase 25 = .ok (.iconst 1, 1) := by decide +kernel
theorem dX10_daysUntilPhase_26 : decode cX10_daysUntilPhase 26 = .ok (.istore_n 2, 1) := by decide +kernel
theorem dX10_daysUntilPhase_27 : decode cX10_daysUntilPhase 27 = .ok (.aload_n 0, 1) := by decide +kernel
theorem dX10_daysUntilPhase_28 : decode cX10_daysUntilPhase 28 = .ok (.aload_n 0, 1) := by decide +kernel
theorem dX10_daysUntilPhase_29 : decode cX10_daysUntilPhase 29 = .ok (.invokevirtual 85, 3) := by decide +kernel
theorem dX10_daysUntilPhase_32 : decode cX10_daysUntilPhase 32 = .ok (.iload_n 2, 1) := by decide +kernel
theorem dX10_daysUntilPhase_33 : decode cX10_daysUntilPhase 33 = .ok (.iadd, 1) := by decide +kernel
theorem dX10_daysUntilPhase_34 : decode cX10_daysUntilPhase 34 = .ok (.invokevirtual 99, 3) := by decide +kernel
theorem dX10_daysUntilPhase_37 : decode cX10_daysUntilPhase 37 = .ok (.iload_n 1, 1) := by decide +kernel
theorem dX10_daysUntilPhase_38 : decode cX10_daysUntilPhase 38 = .ok (.if_icmp .eq 9, 3) := by decide +kernel
theorem dX10_daysUntilPhase_47 : decode cX10_daysUntilPhase 47 = .ok (.iload_n 2, 1) := by decide +kernel
theorem dX10_daysUntilPhase_48 : decode cX10_daysUntilPhase 48 = .ok (.ireturn, 1) := by decide +kernel
theorem dX10_daysUntilPhase_41 : decode cX10_daysUntilPhase 41 = .ok (.iinc 2 1, 3) := by decide +kernel
theorem dX10_daysUntilPhase_44 : decode cX10_daysUntilPhase 44 = .ok (.goto (-17), 3) := by decide +kernel
theorem dX10_daysUntilPhase_11 : decode cX10_daysUntilPhase 11 = .ok (.iconst 1, 1) := by decide +kernel
theorem dX10_daysUntilPhase_12 : decode cX10_daysUntilPhase 12 = .ok (.goto 4, 3) := by decide +kernel
theorem dX10_daysUntilPhase_23 : decode cX10_daysUntilPhase 23 = .ok (.iconst 0, 1) := by decide +kernel
theorem dX10_daysUntilPhase_24 : decode cX10_daysUntilPhase 24 = .ok (.ireturn, 1) := by decide +kernel
def lp_X10_daysUntilPhase_27 (d : MoV) (ph : Int32) (u_4 : MoV) : Nat → Int32 → Int32 × MoV
  | 0, _ => (0, d)
  | n + 1, x2 => (if (f_X10_phase u_4 ((f_X10_today u_4) + x2)) = ph then (x2, u_4) else (lp_X10_daysUntilPhase_27 d ph u_4 n (x2 + 1)))
def okl_lp_X10_daysUntilPhase_27 (d : MoV) (ph : Int32) (u_4 : MoV) : Nat → Int32 → Prop
  | 0, _ => False
  | n + 1, x2 => (ok_X10_phase u_4 ((f_X10_today u_4) + x2) ∧ (if (f_X10_phase u_4 ((f_X10_today u_4) + x2)) = ph then True else (okl_lp_X10_daysUntilPhase_27 d ph u_4 n (x2 + 1))))
def f_X10_daysUntilPhase (d : MoV) (ph : Int32) : Int32 × MoV := (if (f_X10_isIn ph (0 : Int32) (7 : Int32)) = (0 : Int32) then (let u_11 : MoV := (f_X10_isThrown d (1 : Int32) (1 : Int32)); ((0 : Int32), u_11)) else (let u_4 : MoV := (f_X10_isThrown d (0 : Int32) (1 : Int32)); (lp_X10_daysUntilPhase_27 d ph u_4 40 (1 : Int32))))
def ok_X10_daysUntilPhase (d : MoV) (ph : Int32) : Prop := (if (f_X10_isIn ph (0 : Int32) (7 : Int32)) = (0 : Int32) then True else (let u_4 : MoV := (f_X10_isThrown d (0 : Int32) (1 : Int32)); (okl_lp_X10_daysUntilPhase_27 d ph u_4 40 (1 : Int32))))
set_option maxHeartbeats 4000000 in
set_option maxRecDepth 100000 in
theorem c_X10_daysUntilPhase (l : Launch) (G : GG) (dh0 : Nat) (dh1 : Nat) (dh2 : Nat) (dh3 : Nat) (dh4 : Nat) (dh5 : Nat) (dh6 : Nat) (dh7 : Nat) (sz : Nat) (d : MoV) (ph : Int32) (hok : ok_X10_daysUntilPhase d ph) : wMet l yX10_daysUntilPhase cX10_daysUntilPhase 3 (some .int) 2 0 0 G (fl [wMo G dh0 dh1 dh2 dh3 dh4 dh5 dh6 dh7 d]) [.ref dh0, .int ph] sz (fun u : Int32 × MoV => some (.int u.1)) (fun u : Int32 × MoV => u = f_X10_daysUntilPhase d ph) (fun u : Int32 × MoV => fl [wMo G dh0 dh1 dh2 dh3 dh4 dh5 dh6 dh7 u.2]) := by
  refine w_start (by decide +kernel) (Nat.le_of_ble_eq_true rfl) ?_
  intro p e s m below meth c A hx hb hr hml hts hown hlk hin hP hD hA hK hST ls hl
  have hS : va_S A s.heap s.heap [] := va_S.rf
  have hown : s.vm.findClass RX10 = some m.cls := hown
  have hl : lv_has ls 3 [(0, .ref dh0), (1, .int ph)] := hl
  have hF : f_X10_daysUntilPhase d ph = (if (f_X10_isIn ph (0 : Int32) (7 : Int32)) = (0 : Int32) then (let u_11 : MoV := (f_X10_isThrown d (1 : Int32) (1 : Int32)); ((0 : Int32), u_11)) else (let u_4 : MoV := (f_X10_isThrown d (0 : Int32) (1 : Int32)); (lp_X10_daysUntilPhase_27 d ph u_4 40 (1 : Int32)))) := rfl
  have hok : (if (f_X10_isIn ph (0 : Int32) (7 : Int32)) = (0 : Int32) then True else (let u_4 : MoV := (f_X10_isThrown d (0 : Int32) (1 : Int32)); (okl_lp_X10_daysUntilPhase_27 d ph u_4 40 (1 : Int32)))) := hok
  refine lv_aload_n hx hb dX10_daysUntilPhase_0 rfl (lv_at hl 0 rfl) ?_
  refine lv_iload_n hx hb dX10_daysUntilPhase_1 rfl (lv_at hl 1 rfl) ?_
  refine lv_iconst (v := (0 : Int32)) hx hb dX10_daysUntilPhase_2 (by decide) ?_
  refine lv_bipush (v := (7 : Int32)) hx hb dX10_daysUntilPhase_3 (by decide) ?_
  refine r_S (own := RX10) (v := (some (.int (f_X10_isIn ph (0 : Int32) (7 : Int32))))) (st1 := [.int (f_X10_isIn ph (0 : Int32) (7 : Int32)), .ref dh0]) (As := [.int ph, .int (0 : Int32), .int (7 : Int32)]) (rest := [.ref dh0]) (c_X10_isIn l G ph (0 : Int32) (7 : Int32)) ⟨hx, hb, hml, hown, hts⟩ g_X10_48 hds_X10_isIn hK hST hS hP [] rfl ⟨Nat.le_of_ble_eq_true rfl, Nat.le_of_ble_eq_true rfl⟩ ⟨Nat.le_of_ble_eq_true rfl, Nat.le_of_ble_eq_true rfl⟩ rfl hl.1 rfl (Nat.le_of_ble_eq_true rfl) dX10_daysUntilPhase_5 rfl (fun b_1 => ?_)
  refine lv_if_ne (tgt := 15) hx hb dX10_daysUntilPhase_8 (by decide) (fun c_2 => ?_) (fun c_2 => ?_)
  · have hF := hF.trans (if_neg c_2)
    have hok := Eq.mp (if_neg c_2) hok
    refine lv_iconst (v := (0 : Int32)) hx hb dX10_daysUntilPhase_15 (by decide) ?_
    refine lv_iconst (v := (1 : Int32)) hx hb dX10_daysUntilPhase_16 (by decide) ?_
    refine w_V (own := RX10) (cs := [wMo G dh0 dh1 dh2 dh3 dh4 dh5 dh6 dh7 d]) (rs := []) (As := [.int (0 : Int32), .int (1 : Int32)]) (rest := []) (c_X10_isThrown l G dh0 dh1 dh2 dh3 dh4 dh5 dh6 dh7 s.heap.size d (0 : Int32) (1 : Int32) (rfl)) ⟨hx, hb, hml, hown, hts⟩ g_X10_63 hdv_X10_isThrown hK hST hS hP hD hA [0] [] rfl rfl rfl (k0 := 0) rfl rfl rfl ⟨Nat.le_of_ble_eq_true rfl, Nat.le_of_ble_eq_true rfl⟩ ⟨Nat.le_of_ble_eq_true rfl, Nat.le_of_ble_eq_true rfl⟩ rfl hl.1 rfl (Nat.le_of_ble_eq_true rfl) dX10_daysUntilPhase_17 (fun u_4 H locs huu hP hD hS => ?_)
    have eu_4 := huu
    have hP : va_P G.1 vwCl (fl [wMo G dh0 dh1 dh2 dh3 dh4 dh5 dh6 dh7 u_4]) H := hP
    have hD : va_D A (fl [wMo G dh0 dh1 dh2 dh3 dh4 dh5 dh6 dh7 u_4]) := hD
    refine W.eq (g2 := F0 m 20 ls [.int (0 : Int32)]) rfl ?_
    have hF : f_X10_daysUntilPhase d ph = (lp_X10_daysUntilPhase_27 d ph u_4 40 (1 : Int32)) := by subst eu_4; exact hF
    have hok : (okl_lp_X10_daysUntilPhase_27 d ph u_4 40 (1 : Int32)) := by subst eu_4; exact hok
    refine lv_if_eq (tgt := 25) hx hb dX10_daysUntilPhase_20 (by decide) (fun c_5 => ?_) (fun c_5 => ?_)
    · refine lv_iconst (v := (1 : Int32)) hx hb dX10_daysUntilPhase_25 (by decide) ?_
      refine lv_istore_n (lv' := [(2, .int (1 : Int32)), (0, .ref dh0), (1, .int ph)]) hx hb dX10_daysUntilPhase_26 rfl hl (by decide) rfl (fun ls hl => ?_)
      have L27 : ∀ (n : Nat) (x2 : Int32) (ls : Array Slot), lv_has ls 3 [(2, .int x2), (0, .ref dh0), (1, .int ph)] → (True) → f_X10_daysUntilPhase d ph = lp_X10_daysUntilPhase_27 d ph u_4 n x2 → okl_lp_X10_daysUntilPhase_27 d ph u_4 n x2 → W p l e (rmd 2 0 0) s m ([.ref dh0, .int ph] : List Value).toArray below meth c H locs 0 0 (MQ below (wQ (fun u : Int32 × MoV => some (.int u.1)) (fun u : Int32 × MoV => u = f_X10_daysUntilPhase d ph) (fun u : Int32 × MoV => fl [wMo G dh0 dh1 dh2 dh3 dh4 dh5 dh6 dh7 u.2]) G.1 A) ([.ref dh0, .int ph] : List Value).toArray s 0 0 A) (F0 m 27 ls []) := by
        intro n
        induction n with
        | zero => intro x2 ls hl hu hF hok; exact hok.elim
        | succ n ih =>
          intro x2 ls hl hu hF hok
          have hF : f_X10_daysUntilPhase d ph = (if (f_X10_phase u_4 ((f_X10_today u_4) + x2)) = ph then (x2, u_4) else (lp_X10_daysUntilPhase_27 d ph u_4 n (x2 + 1))) := hF
          have hok : (ok_X10_phase u_4 ((f_X10_today u_4) + x2) ∧ (if (f_X10_phase u_4 ((f_X10_today u_4) + x2)) = ph then True else (okl_lp_X10_daysUntilPhase_27 d ph u_4 n (x2 + 1)))) := hok
          refine lv_aload_n hx hb dX10_daysUntilPhase_27 rfl (lv_at hl 1 rfl) ?_
          refine lv_aload_n hx hb dX10_daysUntilPhase_28 rfl (lv_at hl 1 rfl) ?_
          refine r_V (own := RX10) (v := (some (.int (f_X10_today u_4)))) (st1 := [.int (f_X10_today u_4), .ref dh0]) (As := []) (rest := [.ref dh0]) (c_X10_today l G dh0 dh1 dh2 dh3 dh4 dh5 dh6 dh7 u_4) ⟨hx, hb, hml, hown, hts⟩ g_X10_85 hdv_X10_today hK hST hS hP [0, 1, 2, 3, 4, 5, 6, 7] rfl (k0 := 0) rfl rfl rfl ⟨Nat.le_of_ble_eq_true rfl, Nat.le_of_ble_eq_true rfl⟩ ⟨Nat.le_of_ble_eq_true rfl, Nat.le_of_ble_eq_true rfl⟩ rfl hl.1 rfl (Nat.le_of_ble_eq_true rfl) dX10_daysUntilPhase_29 rfl (fun b_6 => ?_)
          refine lv_iload_n hx hb dX10_daysUntilPhase_32 rfl (lv_at hl 0 rfl) ?_
          refine lv_iadd hx hb dX10_daysUntilPhase_33 ?_
          have k_7 := hok.1
          have hok := hok.2
          refine r_V (own := RX10) (v := (some (.int (f_X10_phase u_4 ((f_X10_today u_4) + x2))))) (st1 := [.int (f_X10_phase u_4 ((f_X10_today u_4) + x2))]) (As := [.int ((f_X10_today u_4) + x2)]) (rest := []) (c_X10_phase l G dh0 dh1 dh2 dh3 dh4 dh5 dh6 dh7 u_4 ((f_X10_today u_4) + x2) k_7) ⟨hx, hb, hml, hown, hts⟩ g_X10_99 hdv_X10_phase hK hST hS hP [0, 1, 2, 3, 4, 5, 6, 7] rfl (k0 := 0) rfl rfl rfl ⟨Nat.le_of_ble_eq_true rfl, Nat.le_of_ble_eq_true rfl⟩ ⟨Nat.le_of_ble_eq_true rfl, Nat.le_of_ble_eq_true rfl⟩ rfl hl.1 rfl (Nat.le_of_ble_eq_true rfl) dX10_daysUntilPhase_34 rfl (fun b_8 => ?_)
          refine lv_iload_n hx hb dX10_daysUntilPhase_37 rfl (lv_at hl 2 rfl) ?_
          refine lv_icmp_eq (tgt := 47) hx hb dX10_daysUntilPhase_38 (by decide) (fun c_9 => ?_) (fun c_9 => ?_)
          · have hF := hF.trans (if_pos c_9)
            have hok := Eq.mp (if_pos c_9) hok
            refine lv_iload_n hx hb dX10_daysUntilPhase_47 rfl (lv_at hl 0 rfl) ?_
            exact w_ret (u := (x2, u_4)) hx hb hr hlk rfl hS rfl hF.symm hP hD (Nat.le_of_ble_eq_true rfl) (Nat.le_of_ble_eq_true rfl) dX10_daysUntilPhase_48
          · have hF := hF.trans (if_neg c_9)
            have hok := Eq.mp (if_neg c_9) hok
            refine lv_iinc (v := (x2 + 1)) (lv' := [(2, .int (x2 + 1)), (0, .ref dh0), (1, .int ph)]) hx hb dX10_daysUntilPhase_41 hl (k := 0) rfl rfl (by decide) rfl (fun ls hl => ?_)
            refine lv_goto (tgt := 27) hx hb dX10_daysUntilPhase_44 (by decide) ?_
            exact ih (x2 + 1) ls (lv_sub hl [0, 1, 2] rfl) (trivial) hF hok
      exact L27 40 (1 : Int32) ls (lv_sub hl [0, 1, 2] rfl) (trivial) hF hok
    · exact absurd c_5 (by decide)
  · have hF := hF.trans (if_pos c_2)
    have hok := Eq.mp (if_pos c_2) hok
    refine lv_iconst (v := (1 : Int32)) hx hb dX10_daysUntilPhase_11 (by decide) ?_
    refine lv_goto (tgt := 16) hx hb dX10_daysUntilPhase_12 (by decide) ?_
    refine lv_iconst (v := (1 : Int32)) hx hb dX10_daysUntilPhase_16 (by decide) ?_
    refine w_V (own := RX10) (cs := [wMo G dh0 dh1 dh2 dh3 dh4 dh5 dh6 dh7 d]) (rs := []) (As := [.int (1 : Int32), .int (1 : Int32)]) (rest := []) (c_X10_isThrown l G dh0 dh1 dh2 dh3 dh4 dh5 dh6 dh7 s.heap.size d (1 : Int32) (1 : Int32) (rfl)) ⟨hx, hb, hml, hown, hts⟩ g_X10_63 hdv_X10_isThrown hK hST hS hP hD hA [0] [] rfl rfl rfl (k0 := 0) rfl rfl rfl ⟨Nat.le_of_ble_eq_true rfl, Nat.le_of_ble_eq_true rfl⟩ ⟨Nat.le_of_ble_eq_true rfl, Nat.le_of_ble_eq_true rfl⟩ rfl hl.1 rfl (Nat.le_of_ble_eq_true rfl) dX10_daysUntilPhase_17 (fun u_11 H locs huu hP hD hS => ?_)
    have eu_11 := huu
    have hP : va_P G.1 vwCl (fl [wMo G dh0 dh1 dh2 dh3 dh4 dh5 dh6 dh7 u_11]) H := hP
    have hD : va_D A (fl [wMo G dh0 dh1 dh2 dh3 dh4 dh5 dh6 dh7 u_11]) := hD
    refine W.eq (g2 := F0 m 20 ls [.int (1 : Int32)]) rfl ?_
    have hF : f_X10_daysUntilPhase d ph = ((0 : Int32), u_11) := by subst eu_11; exact hF
    refine lv_if_eq (tgt := 25) hx hb dX10_daysUntilPhase_20 (by decide) (fun c_12 => ?_) (fun c_12 => ?_)
    · exact absurd c_12 (by decide)
    · refine lv_iconst (v := (0 : Int32)) hx hb dX10_daysUntilPhase_23 (by decide) ?_
      exact w_ret (u := ((0 : Int32), u_11)) hx hb hr hlk rfl hS rfl hF.symm hP hD (Nat.le_of_ble_eq_true rfl) (Nat.le_of_ble_eq_true rfl) dX10_daysUntilPhase_24
theorem dX10_isUnlocked_0 : decode cX10_isUnlocked 0 = .ok (.aload_n 0, 1) := by decide +kernel
theorem dX10_isUnlocked_1 : decode cX10_isUnlocked 1 = .ok (.aload_n 0, 1) := by decide +kernel
theorem dX10_isUnlocked_2 : decode cX10_isUnlocked 2 = .ok (.iload_n 1, 1) := by decide +kernel
theorem dX10_isUnlocked_3 : decode cX10_isUnlocked 3 = .ok (.invokevirtual 75, 3) := by decide +kernel
theorem dX10_isUnlocked_6 : decode cX10_isUnlocked 6 = .ok (.ifCond .ne 7, 3) := by decide +kernel
theorem dX10_isUnlocked_13 : decode cX10_isUnlocked 13 = .ok (.iconst 0, 1) := by decide +kernel
theorem dX10_isUnlocked_14 : decode cX10_isUnlocked 14 = .ok (.iconst 1, 1) := by decide +kernel
theorem dX10_isUnlocked_15 : decode cX10_isUnlocked 15 = .ok (.invokevirtual 63, 3) := by decide +kernel
theorem dX10_isUnlocked_18 : decode cX10_isUnlocked 18 = .ok (.ifCond .ne 21, 3) := by decide +kernel
theorem dX10_isUnlocked_21 : decode cX10_isUnlocked 21 = .ok (.aload_n 0, 1) := by decide +kernel
theorem dX10_isUnlocked_22 : decode cX10_isUnlocked 22 = .ok (.iload_n 1, 1) := by decide +kernel
theorem dX10_isUnlocked_23 : decode cX10_isUnlocked 23 = .ok (.aload_n 0, 1) := by decide +kernel
theorem dX10_isUnlocked_24 : decode cX10_isUnlocked 24 = .ok (.getfield 9, 3) := by decide +kernel
theorem dX10_isUnlocked_27 : decode cX10_isUnlocked 27 = .ok (.iconst 0, 1) := by decide +kernel
theorem dX10_isUnlocked_28 : decode cX10_isUnlocked 28 = .ok (.iaload, 1) := by decide +kernel
theorem dX10_isUnlocked_29 : decode cX10_isUnlocked 29 = .ok (.invokevirtual 151, 3) := by decide +kernel
theorem u_1983 : Cond.methodLink RX10 151 yX10_unlocked ∈ UW := uw 1983 (by decide +kernel) rfl
theorem u_1985 : Cond.instanceMethod yX10_unlocked ∈ UW := uw 1985 (by decide +kernel) rfl
theorem u_47 : Cond.selects RX10 yX10_unlocked yX10_unlocked ∈ UW := uw 47 (by decide +kernel) rfl
theorem u_1986 : Cond.code yX10_unlocked cX10_unlocked 4 (some .boolean) ∈ UW := uw 1986 (by decide +kernel) rfl
theorem g_X10_151 : GoodIn UW (wsV RX10 151 RX10 yX10_unlocked (wsU yX10_unlocked cX10_unlocked 4 (some .boolean))) := gV u_1983 u_1985 u_47 u_77 u_1986
theorem hdv_X10_unlocked : yX10_unlocked.cls = RX10 ∧ yX10_unlocked.cls ≠ "java/lang/invoke/MethodHandle" ∧ yX10_unlocked.cls ≠ "java/lang/invoke/VarHandle" ∧ (parseMethodDescriptor yX10_unlocked.desc).map (fun d => d.parameters.length) = some 2 := by decide +kernel
theorem dX10_isUnlocked_32 : decode cX10_isUnlocked 32 = .ok (.ifCond .eq 7, 3) := by decide +kernel
theorem dX10_isUnlocked_39 : decode cX10_isUnlocked 39 = .ok (.iconst 0, 1) := by decide +kernel
theorem dX10_isUnlocked_40 : decode cX10_isUnlocked 40 = .ok (.ireturn, 1) := by decide +kernel
theorem dX10_isUnlocked_35 : decode cX10_isUnlocked 35 = .ok (.iconst 1, 1) := by decide +kernel
theorem dX10_isUnlocked_36 : decode cX10_isUnlocked 36 = .ok (.goto 4, 3) := by decide +kernel
theorem dX10_isUnlocked_9 : decode cX10_isUnlocked 9 = .ok (.iconst 1, 1) := by decide +kernel
theorem dX10_isUnlocked_10 : decode cX10_isUnlocked 10 = .ok (.goto 4, 3) := by decide +kernel
def f_X10_isUnlocked (d : MoV) (dr : Int32) : Int32 × MoV := (if (f_X10_isDoor d dr) = (0 : Int32) then (let u_10 : MoV := (f_X10_isThrown d (1 : Int32) (1 : Int32)); ((0 : Int32), u_10)) else (let u_4 : MoV := (f_X10_isThrown d (0 : Int32) (1 : Int32)); (if (f_X10_unlocked u_4 dr (u_4.1 (0 : Int32).toNatClampNeg)) = (0 : Int32) then ((0 : Int32), u_4) else ((1 : Int32), u_4))))
def ok_X10_isUnlocked (d : MoV) (dr : Int32) : Prop := (if (f_X10_isDoor d dr) = (0 : Int32) then True else (let u_4 : MoV := (f_X10_isThrown d (0 : Int32) (1 : Int32)); (ok_X10_unlocked u_4 dr (u_4.1 (0 : Int32).toNatClampNeg) ∧ True)))
set_option maxHeartbeats 4000000 in
set_option maxRecDepth 100000 in
theorem c_X10_isUnlocked (l : Launch) (G : GG) (dh0 : Nat) (dh1 : Nat) (dh2 : Nat) (dh3 : Nat) (dh4 : Nat) (dh5 : Nat) (dh6 : Nat) (dh7 : Nat) (sz : Nat) (d : MoV) (dr : Int32) (hok : ok_X10_isUnlocked d dr) : wMet l yX10_isUnlocked cX10_isUnlocked 2 (some .boolean) 4 0 0 G (fl [wMo G dh0 dh1 dh2 dh3 dh4 dh5 dh6 dh7 d]) [.ref dh0, .int dr] sz (fun u : Int32 × MoV => some (.int u.1)) (fun u : Int32 × MoV => u = f_X10_isUnlocked d dr ∧ narrow .boolean (.int ((f_X10_isUnlocked d dr).1)) = .int ((f_X10_isUnlocked d dr).1)) (fun u : Int32 × MoV => fl [wMo G dh0 dh1 dh2 dh3 dh4 dh5 dh6 dh7 u.2]) := by
  refine w_start (by decide +kernel) (Nat.le_of_ble_eq_true rfl) ?_
  intro p e s m below meth c A hx hb hr hml hts hown hlk hin hP hD hA hK hST ls hl
  have hS : va_S A s.heap s.heap [] := va_S.rf
  have hown : s.vm.findClass RX10 = some m.cls := hown
  have hl : lv_has ls 2 [(0, .ref dh0), (1, .int dr)] := hl
  have hF : f_X10_isUnlocked d dr = (if (f_X10_isDoor d dr) = (0 : Int32) then (let u_10 : MoV := (f_X10_isThrown d (1 : Int32) (1 : Int32)); ((0 : Int32), u_10)) else (let u_4 : MoV := (f_X10_isThrown d (0 : Int32) (1 : Int32)); (if (f_X10_unlocked u_4 dr (u_4.1 (0 : Int32).toNatClampNeg)) = (0 : Int32) then ((0 : Int32), u_4) else ((1 : Int32), u_4)))) := rfl
  have hok : (if (f_X10_isDoor d dr) = (0 : Int32) then True else (let u_4 : MoV := (f_X10_isThrown d (0 : Int32) (1 : Int32)); (ok_X10_unlocked u_4 dr (u_4.1 (0 : Int32).toNatClampNeg) ∧ True))) := hok
  refine lv_aload_n hx hb dX10_isUnlocked_0 rfl (lv_at hl 0 rfl) ?_
  refine lv_aload_n hx hb dX10_isUnlocked_1 rfl (lv_at hl 0 rfl) ?_
  refine lv_iload_n hx hb dX10_isUnlocked_2 rfl (lv_at hl 1 rfl) ?_
  refine r_V (own := RX10) (v := (some (.int (f_X10_isDoor d dr)))) (st1 := [.int (f_X10_isDoor d dr), .ref dh0]) (As := [.int dr]) (rest := [.ref dh0]) (c_X10_isDoor l G dh0 dh1 dh2 dh3 dh4 dh5 dh6 dh7 d dr) ⟨hx, hb, hml, hown, hts⟩ g_X10_75 hdv_X10_isDoor hK hST hS hP [0, 1, 2, 3, 4, 5, 6, 7] rfl (k0 := 0) rfl rfl rfl ⟨Nat.le_of_ble_eq_true rfl, Nat.le_of_ble_eq_true rfl⟩ ⟨Nat.le_of_ble_eq_true rfl, Nat.le_of_ble_eq_true rfl⟩ rfl hl.1 rfl (Nat.le_of_ble_eq_true rfl) dX10_isUnlocked_3 rfl (fun b_1 => ?_)
  refine lv_if_ne (tgt := 13) hx hb dX10_isUnlocked_6 (by decide) (fun c_2 => ?_) (fun c_2 => ?_)
  · have hF := hF.trans (if_neg c_2)
    have hok := Eq.mp (if_neg c_2) hok
    refine lv_iconst (v := (0 : Int32)) hx hb dX10_isUnlocked_13 (by decide) ?_
    refine lv_iconst (v := (1 : Int32)) hx hb dX10_isUnlocked_14 (by decide) ?_
    refine w_V (own := RX10) (cs := [wMo G dh0 dh1 dh2 dh3 dh4 dh5 dh6 dh7 d]) (rs := []) (As := [.int (0 : Int32), .int (1 : Int32)]) (rest := []) (c_X10_isThrown l G dh0 dh1 dh2 dh3 dh4 dh5 dh6 dh7 s.heap.size d (0 : Int32) (1 : Int32) (rfl)) ⟨hx, hb, hml, hown, hts⟩ g_X10_63 hdv_X10_isThrown hK hST hS hP hD hA [0] [] rfl rfl rfl (k0 := 0) rfl rfl rfl ⟨Nat.le_of_ble_eq_true rfl, Nat.le_of_ble_eq_true rfl⟩ ⟨Nat.le_of_ble_eq_true rfl, Nat.le_of_ble_eq_true rfl⟩ rfl hl.1 rfl (Nat.le_of_ble_eq_true rfl) dX10_isUnlocked_15 (fun u_4 H locs huu hP hD hS => ?_)
    have eu_4 := huu
    have hP : va_P G.1 vwCl (fl [wMo G dh0 dh1 dh2 dh3 dh4 dh5 dh6 dh7 u_4]) H := hP
    have hD : va_D A (fl [wMo G dh0 dh1 dh2 dh3 dh4 dh5 dh6 dh7 u_4]) := hD
    refine W.eq (g2 := F0 m 18 ls [.int (0 : Int32)]) rfl ?_
    have hF : f_X10_isUnlocked d dr = (if (f_X10_unlocked u_4 dr (u_4.1 (0 : Int32).toNatClampNeg)) = (0 : Int32) then ((0 : Int32), u_4) else ((1 : Int32), u_4)) := by subst eu_4; exact hF
    have hok : (ok_X10_unlocked u_4 dr (u_4.1 (0 : Int32).toNatClampNeg) ∧ True) := by subst eu_4; exact hok
    refine lv_if_ne (tgt := 39) hx hb dX10_isUnlocked_18 (by decide) (fun c_5 => ?_) (fun c_5 => ?_)
    · exact absurd c_5 (by decide)
    · refine lv_aload_n hx hb dX10_isUnlocked_21 rfl (lv_at hl 0 rfl) ?_
      refine lv_iload_n hx hb dX10_isUnlocked_22 rfl (lv_at hl 1 rfl) ?_
      refine lv_aload_n hx hb dX10_isUnlocked_23 rfl (lv_at hl 0 rfl) ?_
      refine va_get (D := G.1) (ci := 12) (v := .ref dh1) (C := RX10) (T := TX10) (N := 17) hx hb hts uws_X10 hown hK hP 0 rfl rfl 0 (by decide) (hts _ u_1680) (fun _ h9 => h9) rfl dX10_isUnlocked_24 ?_
      refine lv_iconst (v := (0 : Int32)) hx hb dX10_isUnlocked_27 (by decide) ?_
      refine va_iald hx hb hK hP 1 0 rfl rfl (vp_in_nI (n := 0) (by decide) (by decide)) dX10_isUnlocked_28 ?_
      have k_6 := hok.1
      have hok := hok.2
      refine r_V (own := RX10) (v := (some (.int (f_X10_unlocked u_4 dr (u_4.1 (0 : Int32).toNatClampNeg))))) (st1 := [.int (f_X10_unlocked u_4 dr (u_4.1 (0 : Int32).toNatClampNeg))]) (As := [.int dr, .int (u_4.1 (0 : Int32).toNatClampNeg)]) (rest := []) (c_X10_unlocked l G dh0 dh1 dh2 dh3 dh4 dh5 dh6 dh7 u_4 dr (u_4.1 (0 : Int32).toNatClampNeg) k_6) ⟨hx, hb, hml, hown, hts⟩ g_X10_151 hdv_X10_unlocked hK hST hS hP [0, 1, 2, 3, 4, 5, 6, 7] rfl (k0 := 0) rfl rfl rfl ⟨Nat.le_of_ble_eq_true rfl, Nat.le_of_ble_eq_true rfl⟩ ⟨Nat.le_of_ble_eq_true rfl, Nat.le_of_ble_eq_true rfl⟩ rfl hl.1 rfl (Nat.le_of_ble_eq_true rfl) dX10_isUnlocked_29 rfl (fun b_7 => ?_)
      refine lv_if_eq (tgt := 39) hx hb dX10_isUnlocked_32 (by decide) (fun c_8 => ?_) (fun c_8 => ?_)
      · have hF := hF.trans (if_pos c_8)
        refine lv_iconst (v := (0 : Int32)) hx hb dX10_isUnlocked_39 (by decide) ?_
        exact w_ret (u := ((0 : Int32), u_4)) hx hb hr hlk rfl hS rfl ⟨hF.symm, (by rw [hF]; exact (rfl : narrow .boolean (.int (0 : Int32)) = .int (0 : Int32)))⟩ hP hD (Nat.le_of_ble_eq_true rfl) (Nat.le_of_ble_eq_true rfl) dX10_isUnlocked_40
      · have hF := hF.trans (if_neg c_8)
        refine lv_iconst (v := (1 : Int32)) hx hb dX10_isUnlocked_35 (by decide) ?_
        refine lv_goto (tgt := 40) hx hb dX10_isUnlocked_36 (by decide) ?_
        exact w_ret (u := ((1 : Int32), u_4)) hx hb hr hlk rfl hS rfl ⟨hF.symm, (by rw [hF]; exact (rfl : narrow .boolean (.int (1 : Int32)) = .int (1 : Int32)))⟩ hP hD (Nat.le_of_ble_eq_true rfl) (Nat.le_of_ble_eq_true rfl) dX10_isUnlocked_40
  · have hF := hF.trans (if_pos c_2)
    have hok := Eq.mp (if_pos c_2) hok
    refine lv_iconst (v := (1 : Int32)) hx hb dX10_isUnlocked_9 (by decide) ?_
    refine lv_goto (tgt := 14) hx hb dX10_isUnlocked_10 (by decide) ?_
    refine lv_iconst (v := (1 : Int32)) hx hb dX10_isUnlocked_14 (by decide) ?_
    refine w_V (own := RX10) (cs := [wMo G dh0 dh1 dh2 dh3 dh4 dh5 dh6 dh7 d]) (rs := []) (As := [.int (1 : Int32), .int (1 : Int32)]) (rest := []) (c_X10_isThrown l G dh0 dh1 dh2 dh3 dh4 dh5 dh6 dh7 s.heap.size d (1 : Int32) (1 : Int32) (rfl)) ⟨hx, hb, hml, hown, hts⟩ g_X10_63 hdv_X10_isThrown hK hST hS hP hD hA [0] [] rfl rfl rfl (k0 := 0) rfl rfl rfl ⟨Nat.le_of_ble_eq_true rfl, Nat.le_of_ble_eq_true rfl⟩ ⟨Nat.le_of_ble_eq_true rfl, Nat.le_of_ble_eq_true rfl⟩ rfl hl.1 rfl (Nat.le_of_ble_eq_true rfl) dX10_isUnlocked_15 (fun u_10 H locs huu hP hD hS => ?_)
    have eu_10 := huu
    have hP : va_P G.1 vwCl (fl [wMo G dh0 dh1 dh2 dh3 dh4 dh5 dh6 dh7 u_10]) H := hP
    have hD : va_D A (fl [wMo G dh0 dh1 dh2 dh3 dh4 dh5 dh6 dh7 u_10]) := hD
    refine W.eq (g2 := F0 m 18 ls [.int (1 : Int32)]) rfl ?_
    have hF : f_X10_isUnlocked d dr = ((0 : Int32), u_10) := by subst eu_10; exact hF
    refine lv_if_ne (tgt := 39) hx hb dX10_isUnlocked_18 (by decide) (fun c_11 => ?_) (fun c_11 => ?_)
    · refine lv_iconst (v := (0 : Int32)) hx hb dX10_isUnlocked_39 (by decide) ?_
      exact w_ret (u := ((0 : Int32), u_10)) hx hb hr hlk rfl hS rfl ⟨hF.symm, (by rw [hF]; exact (rfl : narrow .boolean (.int (0 : Int32)) = .int (0 : Int32)))⟩ hP hD (Nat.le_of_ble_eq_true rfl) (Nat.le_of_ble_eq_true rfl) dX10_isUnlocked_40
    · exact absurd c_11 (by decide)
theorem dX10_hoursUntilUnlocked_0 : decode cX10_hoursUntilUnlocked 0 = .ok (.aload_n 0, 1) := by decide +kernel
theorem dX10_hoursUntilUnlocked_1 : decode cX10_hoursUntilUnlocked 1 = .ok (.aload_n 0, 1) := by decide +kernel
theorem dX10_hoursUntilUnlocked_2 : decode cX10_hoursUntilUnlocked 2 = .ok (.iload_n 1, 1) := by decide +kernel
theorem dX10_hoursUntilUnlocked_3 : decode cX10_hoursUntilUnlocked 3 = .ok (.invokevirtual 75, 3) := by decide +kernel
theorem dX10_hoursUntilUnlocked_6 : decode cX10_hoursUntilUnlocked 6 = .ok (.ifCond .ne 7, 3) := by decide +kernel
theorem dX10_hoursUntilUnlocked_13 : decode cX10_hoursUntilUnlocked 13 = .ok (.iconst 0, 1) := by decide +kernel
theorem dX10_hoursUntilUnlocked_14 : decode cX10_hoursUntilUnlocked 14 = .ok (.iconst 1, 1) := by decide +kernel
theorem dX10_hoursUntilUnlocked_15 : decode cX10_hoursUntilUnlocked 15 = .ok (.invokevirtual 63, 3) := by decide +kernel
theorem dX10_hoursUntilUnlocked_18 : decode cX10_hoursUntilUnlocked 18 = .ok (.ifCond .eq 5, 3) := by decide +kernel
theorem dX10_hoursUntilUnlocked_23 : decode cX10_hoursUntilUnlocked 23 = .ok (.iconst 0, 1) := by decide +kernel
theorem dX10_hoursUntilUnlocked_24 : decode cX10_hoursUntilUnlocked 24 = .ok (.istore_n 2, 1) := by decide +kernel
theorem dX10_hoursUntilUnlocked_25 : decode cX10_hoursUntilUnlocked 25 = .ok (.iload_n 2, 1) := by decide +kernel
theorem dX10_hoursUntilUnlocked_26 : decode cX10_hoursUntilUnlocked 26 = .ok (.sipush 1000, 3) := by decide +kernel
theorem dX10_hoursUntilUnlocked_29 : decode cX10_hoursUntilUnlocked 29 = .ok (.if_icmp .gt 27, 3) := by decide +kernel
theorem dX10_hoursUntilUnlocked_56 : decode cX10_hoursUntilUnlocked 56 = .ok (.aload_n 0, 1) := by decide +kernel
theorem dX10_hoursUntilUnlocked_57 : decode cX10_hoursUntilUnlocked 57 = .ok (.iconst 2, 1) := by decide +kernel
theorem dX10_hoursUntilUnlocked_58 : decode cX10_hoursUntilUnlocked 58 = .ok (.putfield 38, 3) := by decide +kernel
theorem dX10_hoursUntilUnlocked_61 : decode cX10_hoursUntilUnlocked 61 = .ok (.iconst 0, 1) := by decide +kernel
theorem dX10_hoursUntilUnlocked_62 : decode cX10_hoursUntilUnlocked 62 = .ok (.ireturn, 1) := by decide +kernel
theorem dX10_hoursUntilUnlocked_32 : decode cX10_hoursUntilUnlocked 32 = .ok (.aload_n 0, 1) := by decide +kernel
theorem dX10_hoursUntilUnlocked_33 : decode cX10_hoursUntilUnlocked 33 = .ok (.iload_n 1, 1) := by decide +kernel
theorem dX10_hoursUntilUnlocked_34 : decode cX10_hoursUntilUnlocked 34 = .ok (.aload_n 0, 1) := by decide +kernel
theorem dX10_hoursUntilUnlocked_35 : decode cX10_hoursUntilUnlocked 35 = .ok (.getfield 9, 3) := by decide +kernel
theorem dX10_hoursUntilUnlocked_38 : decode cX10_hoursUntilUnlocked 38 = .ok (.iconst 0, 1) := by decide +kernel
theorem dX10_hoursUntilUnlocked_39 : decode cX10_hoursUntilUnlocked 39 = .ok (.iaload, 1) := by decide +kernel
theorem dX10_hoursUntilUnlocked_40 : decode cX10_hoursUntilUnlocked 40 = .ok (.iload_n 2, 1) := by decide +kernel
theorem dX10_hoursUntilUnlocked_41 : decode cX10_hoursUntilUnlocked 41 = .ok (.iadd, 1) := by decide +kernel
theorem dX10_hoursUntilUnlocked_42 : decode cX10_hoursUntilUnlocked 42 = .ok (.invokevirtual 151, 3) := by decide +kernel
theorem dX10_hoursUntilUnlocked_45 : decode cX10_hoursUntilUnlocked 45 = .ok (.ifCond .eq 5, 3) := by decide +kernel
theorem dX10_hoursUntilUnlocked_50 : decode cX10_hoursUntilUnlocked 50 = .ok (.iinc 2 1, 3) := by decide +kernel
theorem dX10_hoursUntilUnlocked_53 : decode cX10_hoursUntilUnlocked 53 = .ok (.goto (-28), 3) := by decide +kernel
theorem dX10_hoursUntilUnlocked_48 : decode cX10_hoursUntilUnlocked 48 = .ok (.iload_n 2, 1) := by decide +kernel
theorem dX10_hoursUntilUnlocked_49 : decode cX10_hoursUntilUnlocked 49 = .ok (.ireturn, 1) := by decide +kernel
theorem dX10_hoursUntilUnlocked_9 : decode cX10_hoursUntilUnlocked 9 = .ok (.iconst 1, 1) := by decide +kernel
theorem dX10_hoursUntilUnlocked_10 : decode cX10_hoursUntilUnlocked 10 = .ok (.goto 4, 3) := by decide +kernel
theorem dX10_hoursUntilUnlocked_21 : decode cX10_hoursUntilUnlocked 21 = .ok (.iconst 0, 1) := by decide +kernel
theorem dX10_hoursUntilUnlocked_22 : decode cX10_hoursUntilUnlocked 22 = .ok (.ireturn, 1) := by decide +kernel
def lp_X10_hoursUntilUnlocked_25 (d : MoV) (dr : Int32) (u_4 : MoV) : Nat → Int32 → Int32 × MoV
  | 0, _ => (0, d)
  | n + 1, x2 => (if (1000 : Int32) < x2 then ((0 : Int32), (mo5 u_4 (2 : Int32))) else (if (f_X10_unlocked u_4 dr ((u_4.1 (0 : Int32).toNatClampNeg) + x2)) = (0 : Int32) then (lp_X10_hoursUntilUnlocked_25 d dr u_4 n (x2 + 1)) else (x2, u_4)))
def okl_lp_X10_hoursUntilUnlocked_25 (d : MoV) (dr : Int32) (u_4 : MoV) : Nat → Int32 → Prop
  | 0, _ => True
  | n + 1, x2 => (if (1000 : Int32) < x2 then True else (ok_X10_unlocked u_4 dr ((u_4.1 (0 : Int32).toNatClampNeg) + x2) ∧ (if (f_X10_unlocked u_4 dr ((u_4.1 (0 : Int32).toNatClampNeg) + x2)) = (0 : Int32) then (okl_lp_X10_hoursUntilUnlocked_25 d dr u_4 n (x2 + 1)) else True)))
def f_X10_hoursUntilUnlocked (d : MoV) (dr : Int32) : Int32 × MoV := (if (f_X10_isDoor d dr) = (0 : Int32) then (let u_11 : MoV := (f_X10_isThrown d (1 : Int32) (1 : Int32)); ((0 : Int32), u_11)) else (let u_4 : MoV := (f_X10_isThrown d (0 : Int32) (1 : Int32)); (lp_X10_hoursUntilUnlocked_25 d dr u_4 ((((1000 : Int32)).toInt - ((0 : Int32)).toInt + 1).toNat + 1) (0 : Int32))))
def ok_X10_hoursUntilUnlocked (d : MoV) (dr : Int32) : Prop := (if (f_X10_isDoor d dr) = (0 : Int32) then True else (let u_4 : MoV := (f_X10_isThrown d (0 : Int32) (1 : Int32)); (okl_lp_X10_hoursUntilUnlocked_25 d dr u_4 ((((1000 : Int32)).toInt - ((0 : Int32)).toInt + 1).toNat + 1) (0 : Int32))))
set_option maxHeartbeats 4000000 in
set_option maxRecDepth 100000 in
theorem c_X10_hoursUntilUnlocked (l : Launch) (G : GG) (dh0 : Nat) (dh1 : Nat) (dh2 : Nat) (dh3 : Nat) (dh4 : Nat) (dh5 : Nat) (dh6 : Nat) (dh7 : Nat) (sz : Nat) (d : MoV) (dr : Int32) (hok : ok_X10_hoursUntilUnlocked d dr) : wMet l yX10_hoursUntilUnlocked cX10_hoursUntilUnlocked 3 (some .int) 4 0 0 G (fl [wMo G dh0 dh1 dh2 dh3 dh4 dh5 dh6 dh7 d]) [.ref dh0, .int dr] sz (fun u : Int32 × MoV => some (.int u.1)) (fun u : Int32 × MoV => u = f_X10_hoursUntilUnlocked d dr) (fun u : Int32 × MoV => fl [wMo G dh0 dh1 dh2 dh3 dh4 dh5 dh6 dh7 u.2]) := by
  refine w_start (by decide +kernel) (Nat.le_of_ble_eq_true rfl) ?_
  intro p e s m below meth c A hx hb hr hml hts hown hlk hin hP hD hA hK hST ls hl
  have hS : va_S A s.heap s.heap [] := va_S.rf
  have hown : s.vm.findClass RX10 = some m.cls := hown
  have hl : lv_has ls 3 [(0, .ref dh0), (1, .int dr)] := hl
  have hF : f_X10_hoursUntilUnlocked d dr = (if (f_X10_isDoor d dr) = (0 : Int32) then (let u_11 : MoV := (f_X10_isThrown d (1 : Int32) (1 : Int32)); ((0 : Int32), u_11)) else (let u_4 : MoV := (f_X10_isThrown d (0 : Int32) (1 : Int32)); (lp_X10_hoursUntilUnlocked_25 d dr u_4 ((((1000 : Int32)).toInt - ((0 : Int32)).toInt + 1).toNat + 1) (0 : Int32)))) := rfl
  have hok : (if (f_X10_isDoor d dr) = (0 : Int32) then True else (let u_4 : MoV := (f_X10_isThrown d (0 : Int32) (1 : Int32)); (okl_lp_X10_hoursUntilUnlocked_25 d dr u_4 ((((1000 : Int32)).toInt - ((0 : Int32)).toInt + 1).toNat + 1) (0 : Int32)))) := hok
  refine lv_aload_n hx hb dX10_hoursUntilUnlocked_0 rfl (lv_at hl 0 rfl) ?_
  refine lv_aload_n hx hb dX10_hoursUntilUnlocked_1 rfl (lv_at hl 0 rfl) ?_
  refine lv_iload_n hx hb dX10_hoursUntilUnlocked_2 rfl (lv_at hl 1 rfl) ?_
  refine r_V (own := RX10) (v := (some (.int (f_X10_isDoor d dr)))) (st1 := [.int (f_X10_isDoor d dr), .ref dh0]) (As := [.int dr]) (rest := [.ref dh0]) (c_X10_isDoor l G dh0 dh1 dh2 dh3 dh4 dh5 dh6 dh7 d dr) ⟨hx, hb, hml, hown, hts⟩ g_X10_75 hdv_X10_isDoor hK hST hS hP [0, 1, 2, 3, 4, 5, 6, 7] rfl (k0 := 0) rfl rfl rfl ⟨Nat.le_of_ble_eq_true rfl, Nat.le_of_ble_eq_true rfl⟩ ⟨Nat.le_of_ble_eq_true rfl, Nat.le_of_ble_eq_true rfl⟩ rfl hl.1 rfl (Nat.le_of_ble_eq_true rfl) dX10_hoursUntilUnlocked_3 rfl (fun b_1 => ?_)
  refine lv_if_ne (tgt := 13) hx hb dX10_hoursUntilUnlocked_6 (by decide) (fun c_2 => ?_) (fun c_2 => ?_)
  · have hF := hF.trans (if_neg c_2)
    have hok := Eq.mp (if_neg c_2) hok
    refine lv_iconst (v := (0 : Int32)) hx hb dX10_hoursUntilUnlocked_13 (by decide) ?_
    refine lv_iconst (v := (1 : Int32)) hx hb dX10_hoursUntilUnlocked_14 (by decide) ?_
    refine w_V (own := RX10) (cs := [wMo G dh0 dh1 dh2 dh3 dh4 dh5 dh6 dh7 d]) (rs := []) (As := [.int (0 : Int32), .int (1 : Int32)]) (rest := []) (c_X10_isThrown l G dh0 dh1 dh2 dh3 dh4 dh5 dh6 dh7 s.heap.size d (0 : Int32) (1 : Int32) (rfl)) ⟨hx, hb, hml, hown, hts⟩ g_X10_63 hdv_X10_isThrown hK hST hS hP hD hA [0] [] rfl rfl rfl (k0 := 0) rfl rfl rfl ⟨Nat.le_of_ble_eq_true rfl, Nat.le_of_ble_eq_true rfl⟩ ⟨Nat.le_of_ble_eq_true rfl, Nat.le_of_ble_eq_true rfl⟩ rfl hl.1 rfl (Nat.le_of_ble_eq_true rfl) dX10_hoursUntilUnlocked_15 (fun u_4 H locs huu hP hD hS => ?_)
    have eu_4 := huu
    have hP : va_P G.1 vwCl (fl [wMo G dh0 dh1 dh2 dh3 dh4 dh5 dh6 dh7 u_4]) H := hP
    have hD : va_D A (fl [wMo G dh0 dh1 dh2 dh3 dh4 dh5 dh6 dh7 u_4]) := hD
    refine W.eq (g2 := F0 m 18 ls [.int (0 : Int32)]) rfl ?_
    have hF : f_X10_hoursUntilUnlocked d dr = (lp_X10_hoursUntilUnlocked_25 d dr u_4 ((((1000 : Int32)).toInt - ((0 : Int32)).toInt + 1).toNat + 1) (0 : Int32)) := by subst eu_4; exact hF
    have hok : (okl_lp_X10_hoursUntilUnlocked_25 d dr u_4 ((((1000 : Int32)).toInt - ((0 : Int32)).toInt + 1).toNat + 1) (0 : Int32)) := by subst eu_4; exact hok
    refine lv_if_eq (tgt := 23) hx hb dX10_hoursUntilUnlocked_18 (by decide) (fun c_5 => ?_) (fun c_5 => ?_)
    · refine lv_iconst (v := (0 : Int32)) hx hb dX10_hoursUntilUnlocked_23 (by decide) ?_
      refine lv_istore_n (lv' := [(2, .int (0 : Int32)), (0, .ref dh0), (1, .int dr)]) hx hb dX10_hoursUntilUnlocked_24 rfl hl (by decide) rfl (fun ls hl => ?_)
      have L25 : ∀ (n : Nat) (x2 : Int32) (ls : Array Slot), lv_has ls 3 [(2, .int x2), (0, .ref dh0), (1, .int dr)] → (upE x2 (1000 : Int32) n) → f_X10_hoursUntilUnlocked d dr = lp_X10_hoursUntilUnlocked_25 d dr u_4 n x2 → okl_lp_X10_hoursUntilUnlocked_25 d dr u_4 n x2 → W p l e (rmd 4 0 0) s m ([.ref dh0, .int dr] : List Value).toArray below meth c H locs 0 0 (MQ below (wQ (fun u : Int32 × MoV => some (.int u.1)) (fun u : Int32 × MoV => u = f_X10_hoursUntilUnlocked d dr) (fun u : Int32 × MoV => fl [wMo G dh0 dh1 dh2 dh3 dh4 dh5 dh6 dh7 u.2]) G.1 A) ([.ref dh0, .int dr] : List Value).toArray s 0 0 A) (F0 m 25 ls []) := by
        intro n
        induction n with
        | zero => intro x2 ls hl hu; exact absurd hu (upE_0)
        | succ n ih =>
          intro x2 ls hl hu hF hok
          have hF : f_X10_hoursUntilUnlocked d dr = (if (1000 : Int32) < x2 then ((0 : Int32), (mo5 u_4 (2 : Int32))) else (if (f_X10_unlocked u_4 dr ((u_4.1 (0 : Int32).toNatClampNeg) + x2)) = (0 : Int32) then (lp_X10_hoursUntilUnlocked_25 d dr u_4 n (x2 + 1)) else (x2, u_4))) := hF
          have hok : (if (1000 : Int32) < x2 then True else (ok_X10_unlocked u_4 dr ((u_4.1 (0 : Int32).toNatClampNeg) + x2) ∧ (if (f_X10_unlocked u_4 dr ((u_4.1 (0 : Int32).toNatClampNeg) + x2)) = (0 : Int32) then (okl_lp_X10_hoursUntilUnlocked_25 d dr u_4 n (x2 + 1)) else True))) := hok
          refine lv_iload_n hx hb dX10_hoursUntilUnlocked_25 rfl (lv_at hl 0 rfl) ?_
          refine lv_sipush (v := (1000 : Int32)) hx hb dX10_hoursUntilUnlocked_26 (by decide) ?_
          refine lv_icmp_gt (tgt := 56) hx hb dX10_hoursUntilUnlocked_29 (by decide) (fun c_6 => ?_) (fun c_6 => ?_)
          · have hF := hF.trans (if_pos c_6)
            have hok := Eq.mp (if_pos c_6) hok
            refine lv_aload_n hx hb dX10_hoursUntilUnlocked_56 rfl (lv_at hl 1 rfl) ?_
            refine lv_iconst (v := (2 : Int32)) hx hb dX10_hoursUntilUnlocked_57 (by decide) ?_
            refine va_put (D := G.1) (ci := 12) (v := .int (2 : Int32)) (ty := .int) (C := RX10) (T := TX10) (N := 17) hx hb hts uws_X10 tyX10 tyX10_ok nmX10 hown hK hP hD hS 0 rfl rfl 5 (by decide) (hts _ u_1685) (fun _ h9 => h9) rfl (by decide +kernel) rfl rfl (Nat.le_of_ble_eq_true rfl) dX10_hoursUntilUnlocked_58 (fun H locs hP hD hS => ?_)
            have hP : va_P G.1 vwCl (fl [wMo G dh0 dh1 dh2 dh3 dh4 dh5 dh6 dh7 (mo5 u_4 (2 : Int32))]) H := hP
            have hD : va_D A (fl [wMo G dh0 dh1 dh2 dh3 dh4 dh5 dh6 dh7 (mo5 u_4 (2 : Int32))]) := hD
            refine lv_iconst (v := (0 : Int32)) hx hb dX10_hoursUntilUnlocked_61 (by decide) ?_
            exact w_ret (u := ((0 : Int32), (mo5 u_4 (2 : Int32)))) hx hb hr hlk rfl hS rfl hF.symm hP hD (Nat.le_of_ble_eq_true rfl) (Nat.le_of_ble_eq_true rfl) dX10_hoursUntilUnlocked_62
          · have hF := hF.trans (if_neg c_6)
            have hok := Eq.mp (if_neg c_6) hok
            refine lv_aload_n hx hb dX10_hoursUntilUnlocked_32 rfl (lv_at hl 1 rfl) ?_
            refine lv_iload_n hx hb dX10_hoursUntilUnlocked_33 rfl (lv_at hl 2 rfl) ?_
            refine lv_aload_n hx hb dX10_hoursUntilUnlocked_34 rfl (lv_at hl 1 rfl) ?_
            refine va_get (D := G.1) (ci := 12) (v := .ref dh1) (C := RX10) (T := TX10) (N := 17) hx hb hts uws_X10 hown hK hP 0 rfl rfl 0 (by decide) (hts _ u_1680) (fun _ h9 => h9) rfl dX10_hoursUntilUnlocked_35 ?_
            refine lv_iconst (v := (0 : Int32)) hx hb dX10_hoursUntilUnlocked_38 (by decide) ?_
            refine va_iald hx hb hK hP 1 0 rfl rfl (vp_in_nI (n := 0) (by decide) (by decide)) dX10_hoursUntilUnlocked_39 ?_
            refine lv_iload_n hx hb dX10_hoursUntilUnlocked_40 rfl (lv_at hl 0 rfl) ?_
            refine lv_iadd hx hb dX10_hoursUntilUnlocked_41 ?_
            have k_7 := hok.1
            have hok := hok.2
            refine r_V (own := RX10) (v := (some (.int (f_X10_unlocked u_4 dr ((u_4.1 (0 : Int32).toNatClampNeg) + x2))))) (st1 := [.int (f_X10_unlocked u_4 dr ((u_4.1 (0 : Int32).toNatClampNeg) + x2))]) (As := [.int dr, .int ((u_4.1 (0 : Int32).toNatClampNeg) + x2)]) (rest := []) (c_X10_unlocked l G dh0 dh1 dh2 dh3 dh4 dh5 dh6 dh7 u_4 dr ((u_4.1 (0 : Int32).toNatClampNeg) + x2) k_7) ⟨hx, hb, hml, hown, hts⟩ g_X10_151 hdv_X10_unlocked hK hST hS hP [0, 1, 2, 3, 4, 5, 6, 7] rfl (k0 := 0) rfl rfl rfl ⟨Nat.le_of_ble_eq_true rfl, Nat.le_of_ble_eq_true rfl⟩ ⟨Nat.le_of_ble_eq_true rfl, Nat.le_of_ble_eq_true rfl⟩ rfl hl.1 rfl (Nat.le_of_ble_eq_true rfl) dX10_hoursUntilUnlocked_42 rfl (fun b_8 => ?_)
            refine lv_if_eq (tgt := 50) hx hb dX10_hoursUntilUnlocked_45 (by decide) (fun c_9 => ?_) (fun c_9 => ?_)
            · have hF := hF.trans (if_pos c_9)
              have hok := Eq.mp (if_pos c_9) hok
              refine lv_iinc (v := (x2 + 1)) (lv' := [(2, .int (x2 + 1)), (0, .ref dh0), (1, .int dr)]) hx hb dX10_hoursUntilUnlocked_50 hl (k := 0) rfl rfl (by decide) rfl (fun ls hl => ?_)
              refine lv_goto (tgt := 25) hx hb dX10_hoursUntilUnlocked_53 (by decide) ?_
              exact ih (x2 + 1) ls (lv_sub hl [0, 1, 2] rfl) (upE_s (Int32.not_lt.mp c_6) (by decide) hu) hF hok
            · have hF := hF.trans (if_neg c_9)
              have hok := Eq.mp (if_neg c_9) hok
              refine lv_iload_n hx hb dX10_hoursUntilUnlocked_48 rfl (lv_at hl 0 rfl) ?_
              exact w_ret (u := (x2, u_4)) hx hb hr hlk rfl hS rfl hF.symm hP hD (Nat.le_of_ble_eq_true rfl) (Nat.le_of_ble_eq_true rfl) dX10_hoursUntilUnlocked_49
      exact L25 ((((1000 : Int32)).toInt - ((0 : Int32)).toInt + 1).toNat + 1) (0 : Int32) ls (lv_sub hl [0, 1, 2] rfl) (upE_i) hF hok
    · exact absurd c_5 (by decide)
  · have hF := hF.trans (if_pos c_2)
    have hok := Eq.mp (if_pos c_2) hok
    refine lv_iconst (v := (1 : Int32)) hx hb dX10_hoursUntilUnlocked_9 (by decide) ?_
    refine lv_goto (tgt := 14) hx hb dX10_hoursUntilUnlocked_10 (by decide) ?_
    refine lv_iconst (v := (1 : Int32)) hx hb dX10_hoursUntilUnlocked_14 (by decide) ?_
    refine w_V (own := RX10) (cs := [wMo G dh0 dh1 dh2 dh3 dh4 dh5 dh6 dh7 d]) (rs := []) (As := [.int (1 : Int32), .int (1 : Int32)]) (rest := []) (c_X10_isThrown l G dh0 dh1 dh2 dh3 dh4 dh5 dh6 dh7 s.heap.size d (1 : Int32) (1 : Int32) (rfl)) ⟨hx, hb, hml, hown, hts⟩ g_X10_63 hdv_X10_isThrown hK hST hS hP hD hA [0] [] rfl rfl rfl (k0 := 0) rfl rfl rfl ⟨Nat.le_of_ble_eq_true rfl, Nat.le_of_ble_eq_true rfl⟩ ⟨Nat.le_of_ble_eq_true rfl, Nat.le_of_ble_eq_true rfl⟩ rfl hl.1 rfl (Nat.le_of_ble_eq_true rfl) dX10_hoursUntilUnlocked_15 (fun u_11 H locs huu hP hD hS => ?_)
    have eu_11 := huu
    have hP : va_P G.1 vwCl (fl [wMo G dh0 dh1 dh2 dh3 dh4 dh5 dh6 dh7 u_11]) H := hP
    have hD : va_D A (fl [wMo G dh0 dh1 dh2 dh3 dh4 dh5 dh6 dh7 u_11]) := hD
    refine W.eq (g2 := F0 m 18 ls [.int (1 : Int32)]) rfl ?_
    have hF : f_X10_hoursUntilUnlocked d dr = ((0 : Int32), u_11) := by subst eu_11; exact hF
    refine lv_if_eq (tgt := 23) hx hb dX10_hoursUntilUnlocked_18 (by decide) (fun c_12 => ?_) (fun c_12 => ?_)
    · exact absurd c_12 (by decide)
    · refine lv_iconst (v := (0 : Int32)) hx hb dX10_hoursUntilUnlocked_21 (by decide) ?_
      exact w_ret (u := ((0 : Int32), u_11)) hx hb hr hlk rfl hS rfl hF.symm hP hD (Nat.le_of_ble_eq_true rfl) (Nat.le_of_ble_eq_true rfl) dX10_hoursUntilUnlocked_22
theorem dX10_hoursUntilUnlockedByDays_0 : decode cX10_hoursUntilUnlockedByDays 0 = .ok (.aload_n 0, 1) := by decide +kernel
theorem dX10_hoursUntilUnlockedByDays_1 : decode cX10_hoursUntilUnlockedByDays 1 = .ok (.iload_n 1, 1) := by decide +kernel
theorem dX10_hoursUntilUnlockedByDays_2 : decode cX10_hoursUntilUnlockedByDays 2 = .ok (.invokevirtual 154, 3) := by decide +kernel
theorem u_1995 : Cond.methodLink RX10 154 yX10_hoursUntilUnlocked ∈ UW := uw 1995 (by decide +kernel) rfl
theorem u_1988 : Cond.instanceMethod yX10_hoursUntilUnlocked ∈ UW := uw 1988 (by decide +kernel) rfl
theorem u_1989 : Cond.selects RX10 yX10_hoursUntilUnlocked yX10_hoursUntilUnlocked ∈ UW := uw 1989 (by decide +kernel) rfl
theorem u_1990 : Cond.code yX10_hoursUntilUnlocked cX10_hoursUntilUnlocked 3 (some .int) ∈ UW := uw 1990 (by decide +kernel) rfl
theorem g_X10_154 : GoodIn UW (wsV RX10 154 RX10 yX10_hoursUntilUnlocked (wsU yX10_hoursUntilUnlocked cX10_hoursUntilUnlocked 3 (some .int))) := gV u_1995 u_1988 u_1989 u_77 u_1990
theorem hdv_X10_hoursUntilUnlocked : yX10_hoursUntilUnlocked.cls = RX10 ∧ yX10_hoursUntilUnlocked.cls ≠ "java/lang/invoke/MethodHandle" ∧ yX10_hoursUntilUnlocked.cls ≠ "java/lang/invoke/VarHandle" ∧ (parseMethodDescriptor yX10_hoursUntilUnlocked.desc).map (fun d => d.parameters.length) = some 1 := by decide +kernel
theorem dX10_hoursUntilUnlockedByDays_5 : decode cX10_hoursUntilUnlockedByDays 5 = .ok (.ireturn, 1) := by decide +kernel
def f_X10_hoursUntilUnlockedByDays (d : MoV) (dr : Int32) : Int32 × MoV := (let u_3 : Int32 × MoV := (f_X10_hoursUntilUnlocked d dr); (u_3.1, u_3.2))
def ok_X10_hoursUntilUnlockedByDays (d : MoV) (dr : Int32) : Prop := (ok_X10_hoursUntilUnlocked d dr ∧ True)
set_option maxHeartbeats 4000000 in
set_option maxRecDepth 100000 in
theorem c_X10_hoursUntilUnlockedByDays (l : Launch) (G : GG) (dh0 : Nat) (dh1 : Nat) (dh2 : Nat) (dh3 : Nat) (dh4 : Nat) (dh5 : Nat) (dh6 : Nat) (dh7 : Nat) (sz : Nat) (d : MoV) (dr : Int32) (hok : ok_X10_hoursUntilUnlockedByDays d dr) : wMet l yX10_hoursUntilUnlockedByDays cX10_hoursUntilUnlockedByDays 2 (some .int) 5 0 0 G (fl [wMo G dh0 dh1 dh2 dh3 dh4 dh5 dh6 dh7 d]) [.ref dh0, .int dr] sz (fun u : Int32 × MoV => some (.int u.1)) (fun u : Int32 × MoV => u = f_X10_hoursUntilUnlockedByDays d dr) (fun u : Int32 × MoV => fl [wMo G dh0 dh1 dh2 dh3 dh4 dh5 dh6 dh7 u.2]) := by
  refine w_start (by decide +kernel) (Nat.le_of_ble_eq_true rfl) ?_
  intro p e s m below meth c A hx hb hr hml hts hown hlk hin hP hD hA hK hST ls hl
  have hS : va_S A s.heap s.heap [] := va_S.rf
  have hown : s.vm.findClass RX10 = some m.cls := hown
  have hl : lv_has ls 2 [(0, .ref dh0), (1, .int dr)] := hl
  have hF : f_X10_hoursUntilUnlockedByDays d dr = (let u_3 : Int32 × MoV := (f_X10_hoursUntilUnlocked d dr); (u_3.1, u_3.2)) := rfl
  have hok : (ok_X10_hoursUntilUnlocked d dr ∧ True) := hok
  refine lv_aload_n hx hb dX10_hoursUntilUnlockedByDays_0 rfl (lv_at hl 0 rfl) ?_
  refine lv_iload_n hx hb dX10_hoursUntilUnlockedByDays_1 rfl (lv_at hl 1 rfl) ?_
  have k_1 := hok.1
  have hok := hok.2
  refine w_V (own := RX10) (cs := [wMo G dh0 dh1 dh2 dh3 dh4 dh5 dh6 dh7 d]) (rs := []) (As := [.int dr]) (rest := []) (c_X10_hoursUntilUnlocked l G dh0 dh1 dh2 dh3 dh4 dh5 dh6 dh7 s.heap.size d dr k_1) ⟨hx, hb, hml, hown, hts⟩ g_X10_154 hdv_X10_hoursUntilUnlocked hK hST hS hP hD hA [0] [] rfl rfl rfl (k0 := 0) rfl rfl rfl ⟨Nat.le_of_ble_eq_true rfl, Nat.le_of_ble_eq_true rfl⟩ ⟨Nat.le_of_ble_eq_true rfl, Nat.le_of_ble_eq_true rfl⟩ rfl hl.1 rfl (Nat.le_of_ble_eq_true rfl) dX10_hoursUntilUnlockedByDays_2 (fun u_3 H locs huu hP hD hS => ?_)
  have eu_3 := huu
  have hP : va_P G.1 vwCl (fl [wMo G dh0 dh1 dh2 dh3 dh4 dh5 dh6 dh7 u_3.2]) H := hP
  have hD : va_D A (fl [wMo G dh0 dh1 dh2 dh3 dh4 dh5 dh6 dh7 u_3.2]) := hD
  refine W.eq (g2 := F0 m 5 ls [.int u_3.1]) rfl ?_
  have hF : f_X10_hoursUntilUnlockedByDays d dr = (u_3.1, u_3.2) := by subst eu_3; exact hF
  exact w_ret (u := (u_3.1, u_3.2)) hx hb hr hlk rfl hS rfl hF.symm hP hD (Nat.le_of_ble_eq_true rfl) (Nat.le_of_ble_eq_true rfl) dX10_hoursUntilUnlockedByDays_5
theorem dX10_unlockedHours_0 : decode cX10_unlockedHours 0 = .ok (.aload_n 0, 1) := by decide +kernel
theorem dX10_unlockedHours_1 : decode cX10_unlockedHours 1 = .ok (.aload_n 0, 1) := by decide +kernel
theorem dX10_unlockedHours_2 : decode cX10_unlockedHours 2 = .ok (.iload_n 1, 1) := by decide +kernel
theorem dX10_unlockedHours_3 : decode cX10_unlockedHours 3 = .ok (.invokevirtual 75, 3) := by decide +kernel
theorem dX10_unlockedHours_6 : decode cX10_unlockedHours 6 = .ok (.ifCond .ne 7, 3) := by decide +kernel
theorem dX10_unlockedHours_13 : decode cX10_unlockedHours 13 = .ok (.iconst 0, 1) := by decide +kernel
theorem dX10_unlockedHours_14 : decode cX10_unlockedHours 14 = .ok (.iconst 1, 1) := by decide +kernel
theorem dX10_unlockedHours_15 : decode cX10_unlockedHours 15 = .ok (.invokevirtual 63, 3) := by decide +kernel
theorem dX10_unlockedHours_18 : decode cX10_unlockedHours 18 = .ok (.ifCond .ne 26, 3) := by decide +kernel
theorem dX10_unlockedHours_21 : decode cX10_unlockedHours 21 = .ok (.aload_n 0, 1) := by decide +kernel
theorem dX10_unlockedHours_22 : decode cX10_unlockedHours 22 = .ok (.iload_n 2, 1) := by decide +kernel
theorem dX10_unlockedHours_23 : decode cX10_unlockedHours 23 = .ok (.iconst 1, 1) := by decide +kernel
theorem dX10_unlockedHours_24 : decode cX10_unlockedHours 24 = .ok (.bipush 99, 2) := by decide +kernel
theorem dX10_unlockedHours_26 : decode cX10_unlockedHours 26 = .ok (.invokestatic 48, 3) := by decide +kernel
theorem dX10_unlockedHours_29 : decode cX10_unlockedHours 29 = .ok (.ifCond .ne 7, 3) := by decide +kernel
theorem dX10_unlockedHours_36 : decode cX10_unlockedHours 36 = .ok (.iconst 0, 1) := by decide +kernel
theorem dX10_unlockedHours_37 : decode cX10_unlockedHours 37 = .ok (.iconst 2, 1) := by decide +kernel
theorem dX10_unlockedHours_38 : decode cX10_unlockedHours 38 = .ok (.invokevirtual 63, 3) := by decide +kernel
theorem dX10_unlockedHours_41 : decode cX10_unlockedHours 41 = .ok (.ifCond .eq 5, 3) := by decide +kernel
theorem dX10_unlockedHours_46 : decode cX10_unlockedHours 46 = .ok (.iconst 0, 1) := by decide +kernel
theorem dX10_unlockedHours_47 : decode cX10_unlockedHours 47 = .ok (.istore_n 3, 1) := by decide +kernel
theorem dX10_unlockedHours_48 : decode cX10_unlockedHours 48 = .ok (.bipush 24, 2) := by decide +kernel
theorem dX10_unlockedHours_50 : decode cX10_unlockedHours 50 = .ok (.aload_n 0, 1) := by decide +kernel
theorem dX10_unlockedHours_51 : decode cX10_unlockedHours 51 = .ok (.invokevirtual 85, 3) := by decide +kernel
theorem dX10_unlockedHours_54 : decode cX10_unlockedHours 54 = .ok (.imul, 1) := by decide +kernel
theorem dX10_unlockedHours_55 : decode cX10_unlockedHours 55 = .ok (.istore 4, 2) := by decide +kernel
theorem dX10_unlockedHours_57 : decode cX10_unlockedHours 57 = .ok (.iload 4, 2) := by decide +kernel
theorem dX10_unlockedHours_59 : decode cX10_unlockedHours 59 = .ok (.bipush 24, 2) := by decide +kernel
theorem dX10_unlockedHours_61 : decode cX10_unlockedHours 61 = .ok (.aload_n 0, 1) := by decide +kernel
theorem dX10_unlockedHours_62 : decode cX10_unlockedHours 62 = .ok (.invokevirtual 85, 3) := by decide +kernel
theorem dX10_unlockedHours_65 : decode cX10_unlockedHours 65 = .ok (.iload_n 2, 1) := by decide +kernel
theorem dX10_unlockedHours_66 : decode cX10_unlockedHours 66 = .ok (.iadd, 1) := by decide +kernel
theorem dX10_unlockedHours_67 : decode cX10_unlockedHours 67 = .ok (.imul, 1) := by decide +kernel
theorem dX10_unlockedHours_68 : decode cX10_unlockedHours 68 = .ok (.if_icmp .ge 27, 3) := by decide +kernel
theorem dX10_unlockedHours_95 : decode cX10_unlockedHours 95 = .ok (.iload_n 3, 1) := by decide +kernel
theorem dX10_unlockedHours_96 : decode cX10_unlockedHours 96 = .ok (.ireturn, 1) := by decide +kernel
theorem dX10_unlockedHours_71 : decode cX10_unlockedHours 71 = .ok (.iload_n 3, 1) := by decide +kernel
theorem dX10_unlockedHours_72 : decode cX10_unlockedHours 72 = .ok (.aload_n 0, 1) := by decide +kernel
theorem dX10_unlockedHours_73 : decode cX10_unlockedHours 73 = .ok (.iload_n 1, 1) := by decide +kernel
theorem dX10_unlockedHours_74 : decode cX10_unlockedHours 74 = .ok (.iload 4, 2) := by decide +kernel
theorem dX10_unlockedHours_76 : decode cX10_unlockedHours 76 = .ok (.invokevirtual 151, 3) := by decide +kernel
theorem dX10_unlockedHours_79 : decode cX10_unlockedHours 79 = .ok (.ifCond .eq 7, 3) := by decide +kernel
theorem dX10_unlockedHours_86 : decode cX10_unlockedHours 86 = .ok (.iconst 0, 1) := by decide +kernel
theorem dX10_unlockedHours_87 : decode cX10_unlockedHours 87 = .ok (.iadd, 1) := by decide +kernel
theorem dX10_unlockedHours_88 : decode cX10_unlockedHours 88 = .ok (.istore_n 3, 1) := by decide +kernel
theorem dX10_unlockedHours_89 : decode cX10_unlockedHours 89 = .ok (.iinc 4 1, 3) := by decide +kernel
theorem dX10_unlockedHours_92 : decode cX10_unlockedHours 92 = .ok (.goto (-35), 3) := by decide +kernel
theorem dX10_unlockedHours_82 : decode cX10_unlockedHours 82 = .ok (.iconst 1, 1) := by decide +kernel
theorem dX10_unlockedHours_83 : decode cX10_unlockedHours 83 = .ok (.goto 4, 3) := by decide +kernel
theorem dX10_unlockedHours_32 : decode cX10_unlockedHours 32 = .ok (.iconst 1, 1) := by decide +kernel
theorem dX10_unlockedHours_33 : decode cX10_unlockedHours 33 = .ok (.goto 4, 3) := by decide +kernel
theorem dX10_unlockedHours_44 : decode cX10_unlockedHours 44 = .ok (.iconst 0, 1) := by decide +kernel
theorem dX10_unlockedHours_45 : decode cX10_unlockedHours 45 = .ok (.ireturn, 1) := by decide +kernel
theorem dX10_unlockedHours_9 : decode cX10_unlockedHours 9 = .ok (.iconst 1, 1) := by decide +kernel
theorem dX10_unlockedHours_10 : decode cX10_unlockedHours 10 = .ok (.goto 4, 3) := by decide +kernel
def lp_X10_unlockedHours_57 (d : MoV) (dr : Int32) (ds : Int32) (u_4 : MoV) (u_9 : MoV) (y_12 : Int32) : Nat → Int32 → Int32 → Int32 × MoV
  | 0, _, _ => (0, d)
  | n + 1, x4, x3 => (if ((24 : Int32) * ((f_X10_today u_9) + ds)) ≤ x4 then (x3, u_9) else (if (f_X10_unlocked u_9 dr x4) = (0 : Int32) then (lp_X10_unlockedHours_57 d dr ds u_4 u_9 y_12 n (x4 + 1) (x3 + (0 : Int32))) else (lp_X10_unlockedHours_57 d dr ds u_4 u_9 y_12 n (x4 + 1) (x3 + (1 : Int32)))))
def okl_lp_X10_unlockedHours_57 (d : MoV) (dr : Int32) (ds : Int32) (u_4 : MoV) (u_9 : MoV) (y_12 : Int32) : Nat → Int32 → Int32 → Prop
  | 0, _, _ => True
  | n + 1, x4, x3 => (if ((24 : Int32) * ((f_X10_today u_9) + ds)) ≤ x4 then True else (ok_X10_unlocked u_9 dr x4 ∧ (if (f_X10_unlocked u_9 dr x4) = (0 : Int32) then (okl_lp_X10_unlockedHours_57 d dr ds u_4 u_9 y_12 n (x4 + 1) (x3 + (0 : Int32))) else (okl_lp_X10_unlockedHours_57 d dr ds u_4 u_9 y_12 n (x4 + 1) (x3 + (1 : Int32))))))
def f_X10_unlockedHours (d : MoV) (dr : Int32) (ds : Int32) : Int32 × MoV := (if (f_X10_isDoor d dr) = (0 : Int32) then (let u_22 : MoV := (f_X10_isThrown d (1 : Int32) (1 : Int32)); ((0 : Int32), u_22)) else (let u_4 : MoV := (f_X10_isThrown d (0 : Int32) (1 : Int32)); (if (f_X10_isIn ds (1 : Int32) (99 : Int32)) = (0 : Int32) then (let u_19 : MoV := (f_X10_isThrown u_4 (1 : Int32) (2 : Int32)); ((0 : Int32), u_19)) else (let u_9 : MoV := (f_X10_isThrown u_4 (0 : Int32) (2 : Int32)); (let y_12 : Int32 := ((24 : Int32) * (f_X10_today u_9)); (lp_X10_unlockedHours_57 d dr ds u_4 u_9 y_12 (((((24 : Int32) * ((f_X10_today u_9) + ds))).toInt - (y_12).toInt).toNat + 1) y_12 (0 : Int32)))))))
def ok_X10_unlockedHours (d : MoV) (dr : Int32) (ds : Int32) : Prop := (if (f_X10_isDoor d dr) = (0 : Int32) then True else (let u_4 : MoV := (f_X10_isThrown d (0 : Int32) (1 : Int32)); (if (f_X10_isIn ds (1 : Int32) (99 : Int32)) = (0 : Int32) then True else (let u_9 : MoV := (f_X10_isThrown u_4 (0 : Int32) (2 : Int32)); (let y_12 : Int32 := ((24 : Int32) * (f_X10_today u_9)); (okl_lp_X10_unlockedHours_57 d dr ds u_4 u_9 y_12 (((((24 : Int32) * ((f_X10_today u_9) + ds))).toInt - (y_12).toInt).toNat + 1) y_12 (0 : Int32)))))))
set_option maxHeartbeats 4000000 in
set_option maxRecDepth 100000 in
theorem c_X10_unlockedHours (l : Launch) (G : GG) (dh0 : Nat) (dh1 : Nat) (dh2 : Nat) (dh3 : Nat) (dh4 : Nat) (dh5 : Nat) (dh6 : Nat) (dh7 : Nat) (sz : Nat) (d : MoV) (dr : Int32) (ds : Int32) (hok : ok_X10_unlockedHours d dr ds) : wMet l yX10_unlockedHours cX10_unlockedHours 5 (some .int) 4 0 0 G (fl [wMo G dh0 dh1 dh2 dh3 dh4 dh5 dh6 dh7 d]) [.ref dh0, .int dr, .int ds] sz (fun u : Int32 × MoV => some (.int u.1)) (fun u : Int32 × MoV => u = f_X10_unlockedHours d dr ds) (fun u : Int32 × MoV => fl [wMo G dh0 dh1 dh2 dh3 dh4 dh5 dh6 dh7 u.2]) := by
  refine w_start (by decide +kernel) (Nat.le_of_ble_eq_true rfl) ?_
  intro p e s m below meth c A hx hb hr hml hts hown hlk hin hP hD hA hK hST ls hl
  have hS : va_S A s.heap s.heap [] := va_S.rf
  have hown : s.vm.findClass RX10 = some m.cls := hown
  have hl : lv_has ls 5 [(0, .ref dh0), (1, .int dr), (2, .int ds)] := hl
  have hF : f_X10_unlockedHours d dr ds = (if (f_X10_isDoor d dr) = (0 : Int32) then (let u_22 : MoV := (f_X10_isThrown d (1 : Int32) (1 : Int32)); ((0 : Int32), u_22)) else (let u_4 : MoV := (f_X10_isThrown d (0 : Int32) (1 : Int32)); (if (f_X10_isIn ds (1 : Int32) (99 : Int32)) = (0 : Int32) then (let u_19 : MoV := (f_X10_isThrown u_4 (1 : Int32) (2 : Int32)); ((0 : Int32), u_19)) else (let u_9 : MoV := (f_X10_isThrown u_4 (0 : Int32) (2 : Int32)); (let y_12 : Int32 := ((24 : Int32) * (f_X10_today u_9)); (lp_X10_unlockedHours_57 d dr ds u_4 u_9 y_12 (((((24 : Int32) * ((f_X10_today u_9) + ds))).toInt - (y_12).toInt).toNat + 1) y_12 (0 : Int32))))))) := rfl
  have hok : (if (f_X10_isDoor d dr) = (0 : Int32) then True else (let u_4 : MoV := (f_X10_isThrown d (0 : Int32) (1 : Int32)); (if (f_X10_isIn ds (1 : Int32) (99 : Int32)) = (0 : Int32) then True else (let u_9 : MoV := (f_X10_isThrown u_4 (0 : Int32) (2 : Int32)); (let y_12 : Int32 := ((24 : Int32) * (f_X10_today u_9)); (okl_lp_X10_unlockedHours_57 d dr ds u_4 u_9 y_12 (((((24 : Int32) * ((f_X10_today u_9) + ds))).toInt - (y_12).toInt).toNat + 1) y_12 (0 : Int32))))))) := hok
  refine lv_aload_n hx hb dX10_unlockedHours_0 rfl (lv_at hl 0 rfl) ?_
  refine lv_aload_n hx hb dX10_unlockedHours_1 rfl (lv_at hl 0 rfl) ?_
  refine lv_iload_n hx hb dX10_unlockedHours_2 rfl (lv_at hl 1 rfl) ?_
  refine r_V (own := RX10) (v := (some (.int (f_X10_isDoor d dr)))) (st1 := [.int (f_X10_isDoor d dr), .ref dh0]) (As := [.int dr]) (rest := [.ref dh0]) (c_X10_isDoor l G dh0 dh1 dh2 dh3 dh4 dh5 dh6 dh7 d dr) ⟨hx, hb, hml, hown, hts⟩ g_X10_75 hdv_X10_isDoor hK hST hS hP [0, 1, 2, 3, 4, 5, 6, 7] rfl (k0 := 0) rfl rfl rfl ⟨Nat.le_of_ble_eq_true rfl, Nat.le_of_ble_eq_true rfl⟩ ⟨Nat.le_of_ble_eq_true rfl, Nat.le_of_ble_eq_true rfl⟩ rfl hl.1 rfl (Nat.le_of_ble_eq_true rfl) dX10_unlockedHours_3 rfl (fun b_1 => ?_)
  refine lv_if_ne (tgt := 13) hx hb dX10_unlockedHours_6 (by decide) (fun c_2 => ?_) (fun c_2 => ?_)
  · have hF := hF.trans (if_neg c_2)
    have hok := Eq.mp (if_neg c_2) hok
    refine lv_iconst (v := (0 : Int32)) hx hb dX10_unlockedHours_13 (by decide) ?_
    refine lv_iconst (v := (1 : Int32)) hx hb dX10_unlockedHours_14 (by decide) ?_
    refine w_V (own := RX10) (cs := [wMo G dh0 dh1 dh2 dh3 dh4 dh5 dh6 dh7 d]) (rs := []) (As := [.int (0 : Int32), .int (1 : Int32)]) (rest := []) (c_X10_isThrown l G dh0 dh1 dh2 dh3 dh4 dh5 dh6 dh7 s.heap.size d (0 : Int32) (1 : Int32) (rfl)) ⟨hx, hb, hml, hown, hts⟩ g_X10_63 hdv_X10_isThrown hK hST hS hP hD hA [0] [] rfl rfl rfl (k0 := 0) rfl rfl rfl ⟨Nat.le_of_ble_eq_true rfl, Nat.le_of_ble_eq_true rfl⟩ ⟨Nat.le_of_ble_eq_true rfl, Nat.le_of_ble_eq_true rfl⟩ rfl hl.1 rfl (Nat.le_of_ble_eq_true rfl) dX10_unlockedHours_15 (fun u_4 H locs huu hP hD hS => ?_)
    have eu_4 := huu
    have hP : va_P G.1 vwCl (fl [wMo G dh0 dh1 dh2 dh3 dh4 dh5 dh6 dh7 u_4]) H := hP
    have hD : va_D A (fl [wMo G dh0 dh1 dh2 dh3 dh4 dh5 dh6 dh7 u_4]) := hD
    refine W.eq (g2 := F0 m 18 ls [.int (0 : Int32)]) rfl ?_
    have hF : f_X10_unlockedHours d dr ds = (if (f_X10_isIn ds (1 : Int32) (99 : Int32)) = (0 : Int32) then (let u_19 : MoV := (f_X10_isThrown u_4 (1 : Int32) (2 : Int32)); ((0 : Int32), u_19)) else (let u_9 : MoV := (f_X10_isThrown u_4 (0 : Int32) (2 : Int32)); (let y_12 : Int32 := ((24 : Int32) * (f_X10_today u_9)); (lp_X10_unlockedHours_57 d dr ds u_4 u_9 y_12 (((((24 : Int32) * ((f_X10_today u_9) + ds))).toInt - (y_12).toInt).toNat + 1) y_12 (0 : Int32))))) := by subst eu_4; exact hF
    have hok : (if (f_X10_isIn ds (1 : Int32) (99 : Int32)) = (0 : Int32) then True else (let u_9 : MoV := (f_X10_isThrown u_4 (0 : Int32) (2 : Int32)); (let y_12 : Int32 := ((24 : Int32) * (f_X10_today u_9)); (okl_lp_X10_unlockedHours_57 d dr ds u_4 u_9 y_12 (((((24 : Int32) * ((f_X10_today u_9) + ds))).toInt - (y_12).toInt).toNat + 1) y_12 (0 : Int32))))) := by subst eu_4; exact hok
    refine lv_if_ne (tgt := 44) hx hb dX10_unlockedHours_18 (by decide) (fun c_5 => ?_) (fun c_5 => ?_)
    · exact absurd c_5 (by decide)
    · refine lv_aload_n hx hb dX10_unlockedHours_21 rfl (lv_at hl 0 rfl) ?_
      refine lv_iload_n hx hb dX10_unlockedHours_22 rfl (lv_at hl 2 rfl) ?_
      refine lv_iconst (v := (1 : Int32)) hx hb dX10_unlockedHours_23 (by decide) ?_
      refine lv_bipush (v := (99 : Int32)) hx hb dX10_unlockedHours_24 (by decide) ?_
      refine r_S (own := RX10) (v := (some (.int (f_X10_isIn ds (1 : Int32) (99 : Int32))))) (st1 := [.int (f_X10_isIn ds (1 : Int32) (99 : Int32)), .ref dh0]) (As := [.int ds, .int (1 : Int32), .int (99 : Int32)]) (rest := [.ref dh0]) (c_X10_isIn l G ds (1 : Int32) (99 : Int32)) ⟨hx, hb, hml, hown, hts⟩ g_X10_48 hds_X10_isIn hK hST hS hP [] rfl ⟨Nat.le_of_ble_eq_true rfl, Nat.le_of_ble_eq_true rfl⟩ ⟨Nat.le_of_ble_eq_true rfl, Nat.le_of_ble_eq_true rfl⟩ rfl hl.1 rfl (Nat.le_of_ble_eq_true rfl) dX10_unlockedHours_26 rfl (fun b_6 => ?_)
      refine lv_if_ne (tgt := 36) hx hb dX10_unlockedHours_29 (by decide) (fun c_7 => ?_) (fun c_7 => ?_)
      · have hF := hF.trans (if_neg c_7)
        have hok := Eq.mp (if_neg c_7) hok
        refine lv_iconst (v := (0 : Int32)) hx hb dX10_unlockedHours_36 (by decide) ?_
        refine lv_iconst (v := (2 : Int32)) hx hb dX10_unlockedHours_37 (by decide) ?_
        refine w_V (own := RX10) (cs := [wMo G dh0 dh1 dh2 dh3 dh4 dh5 dh6 dh7 u_4]) (rs := []) (As := [.int (0 : Int32), .int (2 : Int32)]) (rest := []) (c_X10_isThrown l G dh0 dh1 dh2 dh3 dh4 dh5 dh6 dh7 H.size u_4 (0 : Int32) (2 : Int32) (rfl)) ⟨hx, hb, hml, hown, hts⟩ g_X10_63 hdv_X10_isThrown hK hST hS hP hD hA [0] [] rfl rfl rfl (k0 := 0) rfl rfl rfl ⟨Nat.le_of_ble_eq_true rfl, Nat.le_of_ble_eq_true rfl⟩ ⟨Nat.le_of_ble_eq_true rfl, Nat.le_of_ble_eq_true rfl⟩ rfl hl.1 rfl (Nat.le_of_ble_eq_true rfl) dX10_unlockedHours_38 (fun u_9 H locs huu hP hD hS => ?_)
        have eu_9 := huu
        have hP : va_P G.1 vwCl (fl [wMo G dh0 dh1 dh2 dh3 dh4 dh5 dh6 dh7 u_9]) H := hP
        have hD : va_D A (fl [wMo G dh0 dh1 dh2 dh3 dh4 dh5 dh6 dh7 u_9]) := hD
        refine W.eq (g2 := F0 m 41 ls [.int (0 : Int32)]) rfl ?_
        have hF : f_X10_unlockedHours d dr ds = (let y_12 : Int32 := ((24 : Int32) * (f_X10_today u_9)); (lp_X10_unlockedHours_57 d dr ds u_4 u_9 y_12 (((((24 : Int32) * ((f_X10_today u_9) + ds))).toInt - (y_12).toInt).toNat + 1) y_12 (0 : Int32))) := by subst eu_9; exact hF
        have hok : (let y_12 : Int32 := ((24 : Int32) * (f_X10_today u_9)); (okl_lp_X10_unlockedHours_57 d dr ds u_4 u_9 y_12 (((((24 : Int32) * ((f_X10_today u_9) + ds))).toInt - (y_12).toInt).toNat + 1) y_12 (0 : Int32))) := by subst eu_9; exact hok
        refine lv_if_eq (tgt := 46) hx hb dX10_unlockedHours_41 (by decide) (fun c_10 => ?_) (fun c_10 => ?_)
        · refine lv_iconst (v := (0 : Int32)) hx hb dX10_unlockedHours_46 (by decide) ?_
          refine lv_istore_n (lv' := [(3, .int (0 : Int32)), (0, .ref dh0), (1, .int dr), (2, .int ds)]) hx hb dX10_unlockedHours_47 rfl hl (by decide) rfl (fun ls hl => ?_)
          refine lv_bipush (v := (24 : Int32)) hx hb dX10_unlockedHours_48 (by decide) ?_
          refine lv_aload_n hx hb dX10_unlockedHours_50 rfl (lv_at hl 1 rfl) ?_
          refine r_V (own := RX10) (v := (some (.int (f_X10_today u_9)))) (st1 := [.int (f_X10_today u_9), .int (24 : Int32)]) (As := []) (rest := [.int (24 : Int32)]) (c_X10_today l G dh0 dh1 dh2 dh3 dh4 dh5 dh6 dh7 u_9) ⟨hx, hb, hml, hown, hts⟩ g_X10_85 hdv_X10_today hK hST hS hP [0, 1, 2, 3, 4, 5, 6, 7] rfl (k0 := 0) rfl rfl rfl ⟨Nat.le_of_ble_eq_true rfl, Nat.le_of_ble_eq_true rfl⟩ ⟨Nat.le_of_ble_eq_true rfl, Nat.le_of_ble_eq_true rfl⟩ rfl hl.1 rfl (Nat.le_of_ble_eq_true rfl) dX10_unlockedHours_51 rfl (fun b_11 => ?_)
          refine lv_imul hx hb dX10_unlockedHours_54 ?_
          refine lv_topi (fun y_12 ey_12 => ?_)
          have hF : f_X10_unlockedHours d dr ds = (lp_X10_unlockedHours_57 d dr ds u_4 u_9 y_12 (((((24 : Int32) * ((f_X10_today u_9) + ds))).toInt - (y_12).toInt).toNat + 1) y_12 (0 : Int32)) := by subst ey_12; exact hF
          have hok : (okl_lp_X10_unlockedHours_57 d dr ds u_4 u_9 y_12 (((((24 : Int32) * ((f_X10_today u_9) + ds))).toInt - (y_12).toInt).toNat + 1) y_12 (0 : Int32)) := by subst ey_12; exact hok
          refine lv_istore (lv' := [(4, .int y_12), (3, .int (0 : Int32)), (0, .ref dh0), (1, .int dr), (2, .int ds)]) hx hb dX10_unlockedHours_55 hl (by decide) rfl (fun ls hl => ?_)
          have L57 : ∀ (n : Nat) (x4 : Int32) (x3 : Int32) (ls : Array Slot), lv_has ls 5 [(4, .int x4), (3, .int x3), (0, .ref dh0), (1, .int dr), (2, .int ds)] → (upI x4 ((24 : Int32) * ((f_X10_today u_9) + ds)) n) → f_X10_unlockedHours d dr ds = lp_X10_unlockedHours_57 d dr ds u_4 u_9 y_12 n x4 x3 → okl_lp_X10_unlockedHours_57 d dr ds u_4 u_9 y_12 n x4 x3 → W p l e (rmd 4 0 0) s m ([.ref dh0, .int dr, .int ds] : List Value).toArray below meth c H locs 0 0 (MQ below (wQ (fun u : Int32 × MoV => some (.int u.1)) (fun u : Int32 × MoV => u = f_X10_unlockedHours d dr ds) (fun u : Int32 × MoV => fl [wMo G dh0 dh1 dh2 dh3 dh4 dh5 dh6 dh7 u.2]) G.1 A) ([.ref dh0, .int dr, .int ds] : List Value).toArray s 0 0 A) (F0 m 57 ls []) := by
            intro n
            induction n with
            | zero => intro x4 x3 ls hl hu; exact absurd hu (upI_0)
            | succ n ih =>
              intro x4 x3 ls hl hu hF hok
              have hF : f_X10_unlockedHours d dr ds = (if ((24 : Int32) * ((f_X10_today u_9) + ds)) ≤ x4 then (x3, u_9) else (if (f_X10_unlocked u_9 dr x4) = (0 : Int32) then (lp_X10_unlockedHours_57 d dr ds u_4 u_9 y_12 n (x4 + 1) (x3 + (0 : Int32))) else (lp_X10_unlockedHours_57 d dr ds u_4 u_9 y_12 n (x4 + 1) (x3 + (1 : Int32))))) := hF
              have hok : (if ((24 : Int32) * ((f_X10_today u_9) + ds)) ≤ x4 then True else (ok_X10_unlocked u_9 dr x4 ∧ (if (f_X10_unlocked u_9 dr x4) = (0 : Int32) then (okl_lp_X10_unlockedHours_57 d dr ds u_4 u_9 y_12 n (x4 + 1) (x3 + (0 : Int32))) else (okl_lp_X10_unlockedHours_57 d dr ds u_4 u_9 y_12 n (x4 + 1) (x3 + (1 : Int32)))))) := hok
              refine lv_iload hx hb dX10_unlockedHours_57 (lv_at hl 0 rfl) ?_
              refine lv_bipush (v := (24 : Int32)) hx hb dX10_unlockedHours_59 (by decide) ?_
              refine lv_aload_n hx hb dX10_unlockedHours_61 rfl (lv_at hl 2 rfl) ?_
              refine r_V (own := RX10) (v := (some (.int (f_X10_today u_9)))) (st1 := [.int (f_X10_today u_9), .int (24 : Int32), .int x4]) (As := []) (rest := [.int (24 : Int32), .int x4]) (c_X10_today l G dh0 dh1 dh2 dh3 dh4 dh5 dh6 dh7 u_9) ⟨hx, hb, hml, hown, hts⟩ g_X10_85 hdv_X10_today hK hST hS hP [0, 1, 2, 3, 4, 5, 6, 7] rfl (k0 := 0) rfl rfl rfl ⟨Nat.le_of_ble_eq_true rfl, Nat.le_of_ble_eq_true rfl⟩ ⟨Nat.le_of_ble_eq_true rfl, Nat.le_of_ble_eq_true rfl⟩ rfl hl.1 rfl (Nat.le_of_ble_eq_true rfl) dX10_unlockedHours_62 rfl (fun b_13 => ?_)
              refine lv_iload_n hx hb dX10_unlockedHours_65 rfl (lv_at hl 4 rfl) ?_
              refine lv_iadd hx hb dX10_unlockedHours_66 ?_
              refine lv_imul hx hb dX10_unlockedHours_67 ?_
              refine lv_icmp_ge (tgt := 95) hx hb dX10_unlockedHours_68 (by decide) (fun c_14 => ?_) (fun c_14 => ?_)
              · have hF := hF.trans (if_pos c_14)
                have hok := Eq.mp (if_pos c_14) hok
                refine lv_iload_n hx hb dX10_unlockedHours_95 rfl (lv_at hl 1 rfl) ?_
                exact w_ret (u := (x3, u_9)) hx hb hr hlk rfl hS rfl hF.symm hP hD (Nat.le_of_ble_eq_true rfl) (Nat.le_of_ble_eq_true rfl) dX10_unlockedHours_96
              · have hF := hF.trans (if_neg c_14)
                have hok := Eq.mp (if_neg c_14) hok
                refine lv_iload_n hx hb dX10_unlockedHours_71 rfl (lv_at hl 1 rfl) ?_
                refine lv_aload_n hx hb dX10_unlockedHours_72 rfl (lv_at hl 2 rfl) ?_
                refine lv_iload_n hx hb dX10_unlockedHours_73 rfl (lv_at hl 3 rfl) ?_
                refine lv_iload hx hb dX10_unlockedHours_74 (lv_at hl 0 rfl) ?_
                have k_15 := hok.1
                have hok := hok.2
                refine r_V (own := RX10) (v := (some (.int (f_X10_unlocked u_9 dr x4)))) (st1 := [.int (f_X10_unlocked u_9 dr x4), .int x3]) (As := [.int dr, .int x4]) (rest := [.int x3]) (c_X10_unlocked l G dh0 dh1 dh2 dh3 dh4 dh5 dh6 dh7 u_9 dr x4 k_15) ⟨hx, hb, hml, hown, hts⟩ g_X10_151 hdv_X10_unlocked hK hST hS hP [0, 1, 2, 3, 4, 5, 6, 7] rfl (k0 := 0) rfl rfl rfl ⟨Nat.le_of_ble_eq_true rfl, Nat.le_of_ble_eq_true rfl⟩ ⟨Nat.le_of_ble_eq_true rfl, Nat.le_of_ble_eq_true rfl⟩ rfl hl.1 rfl (Nat.le_of_ble_eq_true rfl) dX10_unlockedHours_76 rfl (fun b_16 => ?_)
                refine lv_if_eq (tgt := 86) hx hb dX10_unlockedHours_79 (by decide) (fun c_17 => ?_) (fun c_17 => ?_)
                · have hF := hF.trans (if_pos c_17)
                  have hok := Eq.mp (if_pos c_17) hok
                  refine lv_iconst (v := (0 : Int32)) hx hb dX10_unlockedHours_86 (by decide) ?_
                  refine lv_iadd hx hb dX10_unlockedHours_87 ?_
                  refine lv_istore_n (lv' := [(3, .int (x3 + (0 : Int32))), (4, .int x4), (0, .ref dh0), (1, .int dr), (2, .int ds)]) hx hb dX10_unlockedHours_88 rfl hl (by decide) rfl (fun ls hl => ?_)
                  refine lv_iinc (v := (x4 + 1)) (lv' := [(4, .int (x4 + 1)), (3, .int (x3 + (0 : Int32))), (0, .ref dh0), (1, .int dr), (2, .int ds)]) hx hb dX10_unlockedHours_89 hl (k := 1) rfl rfl (by decide) rfl (fun ls hl => ?_)
                  refine lv_goto (tgt := 57) hx hb dX10_unlockedHours_92 (by decide) ?_
                  exact ih (x4 + 1) (x3 + (0 : Int32)) ls (lv_sub hl [0, 1, 2, 3, 4] rfl) (upI_s (Int32.not_le.mp c_14) hu) hF hok
                · have hF := hF.trans (if_neg c_17)
                  have hok := Eq.mp (if_neg c_17) hok
                  refine lv_iconst (v := (1 : Int32)) hx hb dX10_unlockedHours_82 (by decide) ?_
                  refine lv_goto (tgt := 87) hx hb dX10_unlockedHours_83 (by decide) ?_
                  refine lv_iadd hx hb dX10_unlockedHours_87 ?_
                  refine lv_istore_n (lv' := [(3, .int (x3 + (1 : Int32))), (4, .int x4), (0, .ref dh0), (1, .int dr), (2, .int ds)]) hx hb dX10_unlockedHours_88 rfl hl (by decide) rfl (fun ls hl => ?_)
                  refine lv_iinc (v := (x4 + 1)) (lv' := [(4, .int (x4 + 1)), (3, .int (x3 + (1 : Int32))), (0, .ref dh0), (1, .int dr), (2, .int ds)]) hx hb dX10_unlockedHours_89 hl (k := 1) rfl rfl (by decide) rfl (fun ls hl => ?_)
                  refine lv_goto (tgt := 57) hx hb dX10_unlockedHours_92 (by decide) ?_
                  exact ih (x4 + 1) (x3 + (1 : Int32)) ls (lv_sub hl [0, 1, 2, 3, 4] rfl) (upI_s (Int32.not_le.mp c_14) hu) hF hok
          exact L57 (((((24 : Int32) * ((f_X10_today u_9) + ds))).toInt - (y_12).toInt).toNat + 1) y_12 (0 : Int32) ls (lv_sub hl [0, 1, 2, 3, 4] rfl) (upI_i) hF hok
        · exact absurd c_10 (by decide)
      · have hF := hF.trans (if_pos c_7)
        have hok := Eq.mp (if_pos c_7) hok
        refine lv_iconst (v := (1 : Int32)) hx hb dX10_unlockedHours_32 (by decide) ?_
        refine lv_goto (tgt := 37) hx hb dX10_unlockedHours_33 (by decide) ?_
        refine lv_iconst (v := (2 : Int32)) hx hb dX10_unlockedHours_37 (by decide) ?_
        refine w_V (own := RX10) (cs := [wMo G dh0 dh1 dh2 dh3 dh4 dh5 dh6 dh7 u_4]) (rs := []) (As := [.int (1 : Int32), .int (2 : Int32)]) (rest := []) (c_X10_isThrown l G dh0 dh1 dh2 dh3 dh4 dh5 dh6 dh7 H.size u_4 (1 : Int32) (2 : Int32) (rfl)) ⟨hx, hb, hml, hown, hts⟩ g_X10_63 hdv_X10_isThrown hK hST hS hP hD hA [0] [] rfl rfl rfl (k0 := 0) rfl rfl rfl ⟨Nat.le_of_ble_eq_true rfl, Nat.le_of_ble_eq_true rfl⟩ ⟨Nat.le_of_ble_eq_true rfl, Nat.le_of_ble_eq_true rfl⟩ rfl hl.1 rfl (Nat.le_of_ble_eq_true rfl) dX10_unlockedHours_38 (fun u_19 H locs huu hP hD hS => ?_)
        have eu_19 := huu
        have hP : va_P G.1 vwCl (fl [wMo G dh0 dh1 dh2 dh3 dh4 dh5 dh6 dh7 u_19]) H := hP
        have hD : va_D A (fl [wMo G dh0 dh1 dh2 dh3 dh4 dh5 dh6 dh7 u_19]) := hD
        refine W.eq (g2 := F0 m 41 ls [.int (1 : Int32)]) rfl ?_
        have hF : f_X10_unlockedHours d dr ds = ((0 : Int32), u_19) := by subst eu_19; exact hF
        refine lv_if_eq (tgt := 46) hx hb dX10_unlockedHours_41 (by decide) (fun c_20 => ?_) (fun c_20 => ?_)
        · exact absurd c_20 (by decide)
        · refine lv_iconst (v := (0 : Int32)) hx hb dX10_unlockedHours_44 (by decide) ?_
          exact w_ret (u := ((0 : Int32), u_19)) hx hb hr hlk rfl hS rfl hF.symm hP hD (Nat.le_of_ble_eq_true rfl) (Nat.le_of_ble_eq_true rfl) dX10_unlockedHours_45
  · have hF := hF.trans (if_pos c_2)
    have hok := Eq.mp (if_pos c_2) hok
    refine lv_iconst (v := (1 : Int32)) hx hb dX10_unlockedHours_9 (by decide) ?_
    refine lv_goto (tgt := 14) hx hb dX10_unlockedHours_10 (by decide) ?_
    refine lv_iconst (v := (1 : Int32)) hx hb dX10_unlockedHours_14 (by decide) ?_
    refine w_V (own := RX10) (cs := [wMo G dh0 dh1 dh2 dh3 dh4 dh5 dh6 dh7 d]) (rs := []) (As := [.int (1 : Int32), .int (1 : Int32)]) (rest := []) (c_X10_isThrown l G dh0 dh1 dh2 dh3 dh4 dh5 dh6 dh7 s.heap.size d (1 : Int32) (1 : Int32) (rfl)) ⟨hx, hb, hml, hown, hts⟩ g_X10_63 hdv_X10_isThrown hK hST hS hP hD hA [0] [] rfl rfl rfl (k0 := 0) rfl rfl rfl ⟨Nat.le_of_ble_eq_true rfl, Nat.le_of_ble_eq_true rfl⟩ ⟨Nat.le_of_ble_eq_true rfl, Nat.le_of_ble_eq_true rfl⟩ rfl hl.1 rfl (Nat.le_of_ble_eq_true rfl) dX10_unlockedHours_15 (fun u_22 H locs huu hP hD hS => ?_)
    have eu_22 := huu
    have hP : va_P G.1 vwCl (fl [wMo G dh0 dh1 dh2 dh3 dh4 dh5 dh6 dh7 u_22]) H := hP
    have hD : va_D A (fl [wMo G dh0 dh1 dh2 dh3 dh4 dh5 dh6 dh7 u_22]) := hD
    refine W.eq (g2 := F0 m 18 ls [.int (1 : Int32)]) rfl ?_
    have hF : f_X10_unlockedHours d dr ds = ((0 : Int32), u_22) := by subst eu_22; exact hF
    refine lv_if_ne (tgt := 44) hx hb dX10_unlockedHours_18 (by decide) (fun c_23 => ?_) (fun c_23 => ?_)
    · refine lv_iconst (v := (0 : Int32)) hx hb dX10_unlockedHours_44 (by decide) ?_
      exact w_ret (u := ((0 : Int32), u_22)) hx hb hr hlk rfl hS rfl hF.symm hP hD (Nat.le_of_ble_eq_true rfl) (Nat.le_of_ble_eq_true rfl) dX10_unlockedHours_45
    · exact absurd c_23 (by decide)
theorem dX10_isNoAudit_0 : decode cX10_isNoAudit 0 = .ok (.aload_n 0, 1) := by decide +kernel
theorem dX10_isNoAudit_1 : decode cX10_isNoAudit 1 = .ok (.aload_n 0, 1) := by decide +kernel
theorem dX10_isNoAudit_2 : decode cX10_isNoAudit 2 = .ok (.iload_n 1, 1) := by decide +kernel
theorem dX10_isNoAudit_3 : decode cX10_isNoAudit 3 = .ok (.invokevirtual 75, 3) := by decide +kernel
theorem dX10_isNoAudit_6 : decode cX10_isNoAudit 6 = .ok (.ifCond .ne 7, 3) := by decide +kernel
theorem dX10_isNoAudit_13 : decode cX10_isNoAudit 13 = .ok (.iconst 0, 1) := by decide +kernel
theorem dX10_isNoAudit_14 : decode cX10_isNoAudit 14 = .ok (.iconst 1, 1) := by decide +kernel
theorem dX10_isNoAudit_15 : decode cX10_isNoAudit 15 = .ok (.invokevirtual 63, 3) := by decide +kernel
theorem dX10_isNoAudit_18 : decode cX10_isNoAudit 18 = .ok (.ifCond .ne 26, 3) := by decide +kernel
theorem dX10_isNoAudit_21 : decode cX10_isNoAudit 21 = .ok (.aload_n 0, 1) := by decide +kernel
theorem dX10_isNoAudit_22 : decode cX10_isNoAudit 22 = .ok (.iload_n 2, 1) := by decide +kernel
theorem dX10_isNoAudit_23 : decode cX10_isNoAudit 23 = .ok (.iconst 0, 1) := by decide +kernel
theorem dX10_isNoAudit_24 : decode cX10_isNoAudit 24 = .ok (.bipush 7, 2) := by decide +kernel
theorem dX10_isNoAudit_26 : decode cX10_isNoAudit 26 = .ok (.invokestatic 48, 3) := by decide +kernel
theorem dX10_isNoAudit_29 : decode cX10_isNoAudit 29 = .ok (.ifCond .ne 7, 3) := by decide +kernel
theorem dX10_isNoAudit_36 : decode cX10_isNoAudit 36 = .ok (.iconst 0, 1) := by decide +kernel
theorem dX10_isNoAudit_37 : decode cX10_isNoAudit 37 = .ok (.iconst 2, 1) := by decide +kernel
theorem dX10_isNoAudit_38 : decode cX10_isNoAudit 38 = .ok (.invokevirtual 63, 3) := by decide +kernel
theorem dX10_isNoAudit_41 : decode cX10_isNoAudit 41 = .ok (.ifCond .eq 7, 3) := by decide +kernel
theorem dX10_isNoAudit_48 : decode cX10_isNoAudit 48 = .ok (.iconst 0, 1) := by decide +kernel
theorem dX10_isNoAudit_49 : decode cX10_isNoAudit 49 = .ok (.ireturn, 1) := by decide +kernel
theorem dX10_isNoAudit_32 : decode cX10_isNoAudit 32 = .ok (.iconst 1, 1) := by decide +kernel
theorem dX10_isNoAudit_33 : decode cX10_isNoAudit 33 = .ok (.goto 4, 3) := by decide +kernel
theorem dX10_isNoAudit_44 : decode cX10_isNoAudit 44 = .ok (.iconst 1, 1) := by decide +kernel
theorem dX10_isNoAudit_45 : decode cX10_isNoAudit 45 = .ok (.goto 4, 3) := by decide +kernel
theorem dX10_isNoAudit_9 : decode cX10_isNoAudit 9 = .ok (.iconst 1, 1) := by decide +kernel
theorem dX10_isNoAudit_10 : decode cX10_isNoAudit 10 = .ok (.goto 4, 3) := by decide +kernel
def f_X10_isNoAudit (d : MoV) (dr : Int32) (ago : Int32) : Int32 × MoV := (if (f_X10_isDoor d dr) = (0 : Int32) then (let u_15 : MoV := (f_X10_isThrown d (1 : Int32) (1 : Int32)); ((1 : Int32), u_15)) else (let u_4 : MoV := (f_X10_isThrown d (0 : Int32) (1 : Int32)); (if (f_X10_isIn ago (0 : Int32) (7 : Int32)) = (0 : Int32) then (let u_12 : MoV := (f_X10_isThrown u_4 (1 : Int32) (2 : Int32)); ((1 : Int32), u_12)) else (let u_9 : MoV := (f_X10_isThrown u_4 (0 : Int32) (2 : Int32)); ((0 : Int32), u_9)))))
set_option maxHeartbeats 4000000 in
set_option maxRecDepth 100000 in
theorem c_X10_isNoAudit (l : Launch) (G : GG) (dh0 : Nat) (dh1 : Nat) (dh2 : Nat) (dh3 : Nat) (dh4 : Nat) (dh5 : Nat) (dh6 : Nat) (dh7 : Nat) (sz : Nat) (d : MoV) (dr : Int32) (ago : Int32) : wMet l yX10_isNoAudit cX10_isNoAudit 3 (some .boolean) 3 0 0 G (fl [wMo G dh0 dh1 dh2 dh3 dh4 dh5 dh6 dh7 d]) [.ref dh0, .int dr, .int ago] sz (fun u : Int32 × MoV => some (.int u.1)) (fun u : Int32 × MoV => u = f_X10_isNoAudit d dr ago ∧ narrow .boolean (.int ((f_X10_isNoAudit d dr ago).1)) = .int ((f_X10_isNoAudit d dr ago).1)) (fun u : Int32 × MoV => fl [wMo G dh0 dh1 dh2 dh3 dh4 dh5 dh6 dh7 u.2]) := by
  refine w_start (by decide +kernel) (Nat.le_of_ble_eq_true rfl) ?_
  intro p e s m below meth c A hx hb hr hml hts hown hlk hin hP hD hA hK hST ls hl
  have hS : va_S A s.heap s.heap [] := va_S.rf
  have hown : s.vm.findClass RX10 = some m.cls := hown
  have hl : lv_has ls 3 [(0, .ref dh0), (1, .int dr), (2, .int ago)] := hl
  have hF : f_X10_isNoAudit d dr ago = (if (f_X10_isDoor d dr) = (0 : Int32) then (let u_15 : MoV := (f_X10_isThrown d (1 : Int32) (1 : Int32)); ((1 : Int32), u_15)) else (let u_4 : MoV := (f_X10_isThrown d (0 : Int32) (1 : Int32)); (if (f_X10_isIn ago (0 : Int32) (7 : Int32)) = (0 : Int32) then (let u_12 : MoV := (f_X10_isThrown u_4 (1 : Int32) (2 : Int32)); ((1 : Int32), u_12)) else (let u_9 : MoV := (f_X10_isThrown u_4 (0 : Int32) (2 : Int32)); ((0 : Int32), u_9))))) := rfl
  refine lv_aload_n hx hb dX10_isNoAudit_0 rfl (lv_at hl 0 rfl) ?_
  refine lv_aload_n hx hb dX10_isNoAudit_1 rfl (lv_at hl 0 rfl) ?_
  refine lv_iload_n hx hb dX10_isNoAudit_2 rfl (lv_at hl 1 rfl) ?_
  refine r_V (own := RX10) (v := (some (.int (f_X10_isDoor d dr)))) (st1 := [.int (f_X10_isDoor d dr), .ref dh0]) (As := [.int dr]) (rest := [.ref dh0]) (c_X10_isDoor l G dh0 dh1 dh2 dh3 dh4 dh5 dh6 dh7 d dr) ⟨hx, hb, hml, hown, hts⟩ g_X10_75 hdv_X10_isDoor hK hST hS hP [0, 1, 2, 3, 4, 5, 6, 7] rfl (k0 := 0) rfl rfl rfl ⟨Nat.le_of_ble_eq_true rfl, Nat.le_of_ble_eq_true rfl⟩ ⟨Nat.le_of_ble_eq_true rfl, Nat.le_of_ble_eq_true rfl⟩ rfl hl.1 rfl (Nat.le_of_ble_eq_true rfl) dX10_isNoAudit_3 rfl (fun b_1 => ?_)
  refine lv_if_ne (tgt := 13) hx hb dX10_isNoAudit_6 (by decide) (fun c_2 => ?_) (fun c_2 => ?_)
  · have hF := hF.trans (if_neg c_2)
    refine lv_iconst (v := (0 : Int32)) hx hb dX10_isNoAudit_13 (by decide) ?_
    refine lv_iconst (v := (1 : Int32)) hx hb dX10_isNoAudit_14 (by decide) ?_
    refine w_V (own := RX10) (cs := [wMo G dh0 dh1 dh2 dh3 dh4 dh5 dh6 dh7 d]) (rs := []) (As := [.int (0 : Int32), .int (1 : Int32)]) (rest := []) (c_X10_isThrown l G dh0 dh1 dh2 dh3 dh4 dh5 dh6 dh7 s.heap.size d (0 : Int32) (1 : Int32) (rfl)) ⟨hx, hb, hml, hown, hts⟩ g_X10_63 hdv_X10_isThrown hK hST hS hP hD hA [0] [] rfl rfl rfl (k0 := 0) rfl rfl rfl ⟨Nat.le_of_ble_eq_true rfl, Nat.le_of_ble_eq_true rfl⟩ ⟨Nat.le_of_ble_eq_true rfl, Nat.le_of_ble_eq_true rfl⟩ rfl hl.1 rfl (Nat.le_of_ble_eq_true rfl) dX10_isNoAudit_15 (fun u_4 H locs huu hP hD hS => ?_)
    have eu_4 := huu
    have hP : va_P G.1 vwCl (fl [wMo G dh0 dh1 dh2 dh3 dh4 dh5 dh6 dh7 u_4]) H := hP
    have hD : va_D A (fl [wMo G dh0 dh1 dh2 dh3 dh4 dh5 dh6 dh7 u_4]) := hD
    refine W.eq (g2 := F0 m 18 ls [.int (0 : Int32)]) rfl ?_
    have hF : f_X10_isNoAudit d dr ago = (if (f_X10_isIn ago (0 : Int32) (7 : Int32)) = (0 : Int32) then (let u_12 : MoV := (f_X10_isThrown u_4 (1 : Int32) (2 : Int32)); ((1 : Int32), u_12)) else (let u_9 : MoV := (f_X10_isThrown u_4 (0 : Int32) (2 : Int32)); ((0 : Int32), u_9))) := by subst eu_4; exact hF
    refine lv_if_ne (tgt := 44) hx hb dX10_isNoAudit_18 (by decide) (fun c_5 => ?_) (fun c_5 => ?_)
    · exact absurd c_5 (by decide)
    · refine lv_aload_n hx hb dX10_isNoAudit_21 rfl (lv_at hl 0 rfl) ?_
      refine lv_iload_n hx hb dX10_isNoAudit_22 rfl (lv_at hl 2 rfl) ?_
      refine lv_iconst (v := (0 : Int32)) hx hb dX10_isNoAudit_23 (by decide) ?_
      refine lv_bipush (v := (7 : Int32)) hx hb dX10_isNoAudit_24 (by decide) ?_
      refine r_S (own := RX10) (v := (some (.int (f_X10_isIn ago (0 : Int32) (7 : Int32))))) (st1 := [.int (f_X10_isIn ago (0 : Int32) (7 : Int32)), .ref dh0]) (As := [.int ago, .int (0 : Int32), .int (7 : Int32)]) (rest := [.ref dh0]) (c_X10_isIn l G ago (0 : Int32) (7 : Int32)) ⟨hx, hb, hml, hown, hts⟩ g_X10_48 hds_X10_isIn hK hST hS hP [] rfl ⟨Nat.le_of_ble_eq_true rfl, Nat.le_of_ble_eq_true rfl⟩ ⟨Nat.le_of_ble_eq_true rfl, Nat.le_of_ble_eq_true rfl⟩ rfl hl.1 rfl (Nat.le_of_ble_eq_true rfl) dX10_isNoAudit_26 rfl (fun b_6 => ?_)
      refine lv_if_ne (tgt := 36) hx hb dX10_isNoAudit_29 (by decide) (fun c_7 => ?_) (fun c_7 => ?_)
      · have hF := hF.trans (if_neg c_7)
        refine lv_iconst (v := (0 : Int32)) hx hb dX10_isNoAudit_36 (by decide) ?_
        refine lv_iconst (v := (2 : Int32)) hx hb dX10_isNoAudit_37 (by decide) ?_
        refine w_V (own := RX10) (cs := [wMo G dh0 dh1 dh2 dh3 dh4 dh5 dh6 dh7 u_4]) (rs := []) (As := [.int (0 : Int32), .int (2 : Int32)]) (rest := []) (c_X10_isThrown l G dh0 dh1 dh2 dh3 dh4 dh5 dh6 dh7 H.size u_4 (0 : Int32) (2 : Int32) (rfl)) ⟨hx, hb, hml, hown, hts⟩ g_X10_63 hdv_X10_isThrown hK hST hS hP hD hA [0] [] rfl rfl rfl (k0 := 0) rfl rfl rfl ⟨Nat.le_of_ble_eq_true rfl, Nat.le_of_ble_eq_true rfl⟩ ⟨Nat.le_of_ble_eq_true rfl, Nat.le_of_ble_eq_true rfl⟩ rfl hl.1 rfl (Nat.le_of_ble_eq_true rfl) dX10_isNoAudit_38 (fun u_9 H locs huu hP hD hS => ?_)
        have eu_9 := huu
        have hP : va_P G.1 vwCl (fl [wMo G dh0 dh1 dh2 dh3 dh4 dh5 dh6 dh7 u_9]) H := hP
        have hD : va_D A (fl [wMo G dh0 dh1 dh2 dh3 dh4 dh5 dh6 dh7 u_9]) := hD
        refine W.eq (g2 := F0 m 41 ls [.int (0 : Int32)]) rfl ?_
        have hF : f_X10_isNoAudit d dr ago = ((0 : Int32), u_9) := by subst eu_9; exact hF
        refine lv_if_eq (tgt := 48) hx hb dX10_isNoAudit_41 (by decide) (fun c_10 => ?_) (fun c_10 => ?_)
        · refine lv_iconst (v := (0 : Int32)) hx hb dX10_isNoAudit_48 (by decide) ?_
          exact w_ret (u := ((0 : Int32), u_9)) hx hb hr hlk rfl hS rfl ⟨hF.symm, (by rw [hF]; exact (rfl : narrow .boolean (.int (0 : Int32)) = .int (0 : Int32)))⟩ hP hD (Nat.le_of_ble_eq_true rfl) (Nat.le_of_ble_eq_true rfl) dX10_isNoAudit_49
        · exact absurd c_10 (by decide)
      · have hF := hF.trans (if_pos c_7)
        refine lv_iconst (v := (1 : Int32)) hx hb dX10_isNoAudit_32 (by decide) ?_
        refine lv_goto (tgt := 37) hx hb dX10_isNoAudit_33 (by decide) ?_
        refine lv_iconst (v := (2 : Int32)) hx hb dX10_isNoAudit_37 (by decide) ?_
        refine w_V (own := RX10) (cs := [wMo G dh0 dh1 dh2 dh3 dh4 dh5 dh6 dh7 u_4]) (rs := []) (As := [.int (1 : Int32), .int (2 : Int32)]) (rest := []) (c_X10_isThrown l G dh0 dh1 dh2 dh3 dh4 dh5 dh6 dh7 H.size u_4 (1 : Int32) (2 : Int32) (rfl)) ⟨hx, hb, hml, hown, hts⟩ g_X10_63 hdv_X10_isThrown hK hST hS hP hD hA [0] [] rfl rfl rfl (k0 := 0) rfl rfl rfl ⟨Nat.le_of_ble_eq_true rfl, Nat.le_of_ble_eq_true rfl⟩ ⟨Nat.le_of_ble_eq_true rfl, Nat.le_of_ble_eq_true rfl⟩ rfl hl.1 rfl (Nat.le_of_ble_eq_true rfl) dX10_isNoAudit_38 (fun u_12 H locs huu hP hD hS => ?_)
        have eu_12 := huu
        have hP : va_P G.1 vwCl (fl [wMo G dh0 dh1 dh2 dh3 dh4 dh5 dh6 dh7 u_12]) H := hP
        have hD : va_D A (fl [wMo G dh0 dh1 dh2 dh3 dh4 dh5 dh6 dh7 u_12]) := hD
        refine W.eq (g2 := F0 m 41 ls [.int (1 : Int32)]) rfl ?_
        have hF : f_X10_isNoAudit d dr ago = ((1 : Int32), u_12) := by subst eu_12; exact hF
        refine lv_if_eq (tgt := 48) hx hb dX10_isNoAudit_41 (by decide) (fun c_13 => ?_) (fun c_13 => ?_)
        · exact absurd c_13 (by decide)
        · refine lv_iconst (v := (1 : Int32)) hx hb dX10_isNoAudit_44 (by decide) ?_
          refine lv_goto (tgt := 49) hx hb dX10_isNoAudit_45 (by decide) ?_
          exact w_ret (u := ((1 : Int32), u_12)) hx hb hr hlk rfl hS rfl ⟨hF.symm, (by rw [hF]; exact (rfl : narrow .boolean (.int (1 : Int32)) = .int (1 : Int32)))⟩ hP hD (Nat.le_of_ble_eq_true rfl) (Nat.le_of_ble_eq_true rfl) dX10_isNoAudit_49
  · have hF := hF.trans (if_pos c_2)
    refine lv_iconst (v := (1 : Int32)) hx hb dX10_isNoAudit_9 (by decide) ?_
    refine lv_goto (tgt := 14) hx hb dX10_isNoAudit_10 (by decide) ?_
    refine lv_iconst (v := (1 : Int32)) hx hb dX10_isNoAudit_14 (by decide) ?_
    refine w_V (own := RX10) (cs := [wMo G dh0 dh1 dh2 dh3 dh4 dh5 dh6 dh7 d]) (rs := []) (As := [.int (1 : Int32), .int (1 : Int32)]) (rest := []) (c_X10_isThrown l G dh0 dh1 dh2 dh3 dh4 dh5 dh6 dh7 s.heap.size d (1 : Int32) (1 : Int32) (rfl)) ⟨hx, hb, hml, hown, hts⟩ g_X10_63 hdv_X10_isThrown hK hST hS hP hD hA [0] [] rfl rfl rfl (k0 := 0) rfl rfl rfl ⟨Nat.le_of_ble_eq_true rfl, Nat.le_of_ble_eq_true rfl⟩ ⟨Nat.le_of_ble_eq_true rfl, Nat.le_of_ble_eq_true rfl⟩ rfl hl.1 rfl (Nat.le_of_ble_eq_true rfl) dX10_isNoAudit_15 (fun u_15 H locs huu hP hD hS => ?_)
    have eu_15 := huu
    have hP : va_P G.1 vwCl (fl [wMo G dh0 dh1 dh2 dh3 dh4 dh5 dh6 dh7 u_15]) H := hP
    have hD : va_D A (fl [wMo G dh0 dh1 dh2 dh3 dh4 dh5 dh6 dh7 u_15]) := hD
    refine W.eq (g2 := F0 m 18 ls [.int (1 : Int32)]) rfl ?_
    have hF : f_X10_isNoAudit d dr ago = ((1 : Int32), u_15) := by subst eu_15; exact hF
    refine lv_if_ne (tgt := 44) hx hb dX10_isNoAudit_18 (by decide) (fun c_16 => ?_) (fun c_16 => ?_)
    · refine lv_iconst (v := (1 : Int32)) hx hb dX10_isNoAudit_44 (by decide) ?_
      refine lv_goto (tgt := 49) hx hb dX10_isNoAudit_45 (by decide) ?_
      exact w_ret (u := ((1 : Int32), u_15)) hx hb hr hlk rfl hS rfl ⟨hF.symm, (by rw [hF]; exact (rfl : narrow .boolean (.int (1 : Int32)) = .int (1 : Int32)))⟩ hP hD (Nat.le_of_ble_eq_true rfl) (Nat.le_of_ble_eq_true rfl) dX10_isNoAudit_49
    · exact absurd c_16 (by decide)
theorem dX10_entriesOn_0 : decode cX10_entriesOn 0 = .ok (.aload_n 0, 1) := by decide +kernel
theorem dX10_entriesOn_1 : decode cX10_entriesOn 1 = .ok (.iload_n 1, 1) := by decide +kernel
theorem dX10_entriesOn_2 : decode cX10_entriesOn 2 = .ok (.iload_n 2, 1) := by decide +kernel
theorem dX10_entriesOn_3 : decode cX10_entriesOn 3 = .ok (.invokevirtual 157, 3) := by decide +kernel
theorem u_2008 : Cond.methodLink RX10 157 yX10_isNoAudit ∈ UW := uw 2008 (by decide +kernel) rfl
theorem u_2010 : Cond.instanceMethod yX10_isNoAudit ∈ UW := uw 2010 (by decide +kernel) rfl
theorem u_48 : Cond.selects RX10 yX10_isNoAudit yX10_isNoAudit ∈ UW := uw 48 (by decide +kernel) rfl
theorem u_2011 : Cond.code yX10_isNoAudit cX10_isNoAudit 3 (some .boolean) ∈ UW := uw 2011 (by decide +kernel) rfl
theorem g_X10_157 : GoodIn UW (wsV RX10 157 RX10 yX10_isNoAudit (wsU yX10_isNoAudit cX10_isNoAudit 3 (some .boolean))) := gV u_2008 u_2010 u_48 u_77 u_2011
theorem hdv_X10_isNoAudit : yX10_isNoAudit.cls = RX10 ∧ yX10_isNoAudit.cls ≠ "java/lang/invoke/MethodHandle" ∧ yX10_isNoAudit.cls ≠ "java/lang/invoke/VarHandle" ∧ (parseMethodDescriptor yX10_isNoAudit.desc).map (fun d => d.parameters.length) = some 2 := by decide +kernel
theorem dX10_entriesOn_6 : decode cX10_entriesOn 6 = .ok (.ifCond .eq 7, 3) := by decide +kernel
theorem dX10_entriesOn_13 : decode cX10_entriesOn 13 = .ok (.aload_n 0, 1) := by decide +kernel
theorem dX10_entriesOn_14 : decode cX10_entriesOn 14 = .ok (.getfield 9, 3) := by decide +kernel
theorem dX10_entriesOn_17 : decode cX10_entriesOn 17 = .ok (.aload_n 0, 1) := by decide +kernel
theorem dX10_entriesOn_18 : decode cX10_entriesOn 18 = .ok (.iload_n 1, 1) := by decide +kernel
theorem dX10_entriesOn_19 : decode cX10_entriesOn 19 = .ok (.iload_n 2, 1) := by decide +kernel
theorem dX10_entriesOn_20 : decode cX10_entriesOn 20 = .ok (.invokevirtual 130, 3) := by decide +kernel
theorem dX10_entriesOn_23 : decode cX10_entriesOn 23 = .ok (.iaload, 1) := by decide +kernel
theorem dX10_entriesOn_24 : decode cX10_entriesOn 24 = .ok (.ireturn, 1) := by decide +kernel
theorem dX10_entriesOn_9 : decode cX10_entriesOn 9 = .ok (.iconst 0, 1) := by decide +kernel
theorem dX10_entriesOn_10 : decode cX10_entriesOn 10 = .ok (.goto 14, 3) := by decide +kernel
def f_X10_entriesOn (d : MoV) (dr : Int32) (ago : Int32) : Int32 × MoV := (let u_2 : Int32 × MoV := (f_X10_isNoAudit d dr ago); (if u_2.1 = (0 : Int32) then ((u_2.2.1 (f_X10_audit u_2.2 dr ago).toNatClampNeg), u_2.2) else ((0 : Int32), u_2.2)))
def ok_X10_entriesOn (d : MoV) (dr : Int32) (ago : Int32) : Prop := (let u_2 : Int32 × MoV := (f_X10_isNoAudit d dr ago); (if u_2.1 = (0 : Int32) then (vp_in (f_X10_audit u_2.2 dr ago) 249 ∧ True) else True))
set_option maxHeartbeats 4000000 in
set_option maxRecDepth 100000 in
theorem c_X10_entriesOn (l : Launch) (G : GG) (dh0 : Nat) (dh1 : Nat) (dh2 : Nat) (dh3 : Nat) (dh4 : Nat) (dh5 : Nat) (dh6 : Nat) (dh7 : Nat) (sz : Nat) (d : MoV) (dr : Int32) (ago : Int32) (hok : ok_X10_entriesOn d dr ago) : wMet l yX10_entriesOn cX10_entriesOn 3 (some .int) 4 0 0 G (fl [wMo G dh0 dh1 dh2 dh3 dh4 dh5 dh6 dh7 d]) [.ref dh0, .int dr, .int ago] sz (fun u : Int32 × MoV => some (.int u.1)) (fun u : Int32 × MoV => u = f_X10_entriesOn d dr ago) (fun u : Int32 × MoV => fl [wMo G dh0 dh1 dh2 dh3 dh4 dh5 dh6 dh7 u.2]) := by
  refine w_start (by decide +kernel) (Nat.le_of_ble_eq_true rfl) ?_
  intro p e s m below meth c A hx hb hr hml hts hown hlk hin hP hD hA hK hST ls hl
  have hS : va_S A s.heap s.heap [] := va_S.rf
  have hown : s.vm.findClass RX10 = some m.cls := hown
  have hl : lv_has ls 3 [(0, .ref dh0), (1, .int dr), (2, .int ago)] := hl
  have hF : f_X10_entriesOn d dr ago = (let u_2 : Int32 × MoV := (f_X10_isNoAudit d dr ago); (if u_2.1 = (0 : Int32) then ((u_2.2.1 (f_X10_audit u_2.2 dr ago).toNatClampNeg), u_2.2) else ((0 : Int32), u_2.2))) := rfl
  have hok : (let u_2 : Int32 × MoV := (f_X10_isNoAudit d dr ago); (if u_2.1 = (0 : Int32) then (vp_in (f_X10_audit u_2.2 dr ago) 249 ∧ True) else True)) := hok
  refine lv_aload_n hx hb dX10_entriesOn_0 rfl (lv_at hl 0 rfl) ?_
  refine lv_iload_n hx hb dX10_entriesOn_1 rfl (lv_at hl 1 rfl) ?_
  refine lv_iload_n hx hb dX10_entriesOn_2 rfl (lv_at hl 2 rfl) ?_
  refine w_V (own := RX10) (cs := [wMo G dh0 dh1 dh2 dh3 dh4 dh5 dh6 dh7 d]) (rs := []) (As := [.int dr, .int ago]) (rest := []) (c_X10_isNoAudit l G dh0 dh1 dh2 dh3 dh4 dh5 dh6 dh7 s.heap.size d dr ago) ⟨hx, hb, hml, hown, hts⟩ g_X10_157 hdv_X10_isNoAudit hK hST hS hP hD hA [0] [] rfl rfl rfl (k0 := 0) rfl rfl rfl ⟨Nat.le_of_ble_eq_true rfl, Nat.le_of_ble_eq_true rfl⟩ ⟨Nat.le_of_ble_eq_true rfl, Nat.le_of_ble_eq_true rfl⟩ rfl hl.1 rfl (Nat.le_of_ble_eq_true rfl) dX10_entriesOn_3 (fun u_2 H locs huu hP hD hS => ?_)
  obtain ⟨huu, b_1⟩ := huu
  rw [← huu] at b_1
  have eu_2 := huu
  have hP : va_P G.1 vwCl (fl [wMo G dh0 dh1 dh2 dh3 dh4 dh5 dh6 dh7 u_2.2]) H := hP
  have hD : va_D A (fl [wMo G dh0 dh1 dh2 dh3 dh4 dh5 dh6 dh7 u_2.2]) := hD
  refine W.eq (g2 := F0 m 6 ls [.int u_2.1]) rfl ?_
  have hF : f_X10_entriesOn d dr ago = (if u_2.1 = (0 : Int32) then ((u_2.2.1 (f_X10_audit u_2.2 dr ago).toNatClampNeg), u_2.2) else ((0 : Int32), u_2.2)) := by subst eu_2; exact hF
  have hok : (if u_2.1 = (0 : Int32) then (vp_in (f_X10_audit u_2.2 dr ago) 249 ∧ True) else True) := by subst eu_2; exact hok
  refine lv_if_eq (tgt := 13) hx hb dX10_entriesOn_6 (by decide) (fun c_3 => ?_) (fun c_3 => ?_)
  · have hF := hF.trans (if_pos c_3)
    have hok := Eq.mp (if_pos c_3) hok
    refine lv_aload_n hx hb dX10_entriesOn_13 rfl (lv_at hl 0 rfl) ?_
    refine va_get (D := G.1) (ci := 12) (v := .ref dh1) (C := RX10) (T := TX10) (N := 17) hx hb hts uws_X10 hown hK hP 0 rfl rfl 0 (by decide) (hts _ u_1680) (fun _ h9 => h9) rfl dX10_entriesOn_14 ?_
    refine lv_aload_n hx hb dX10_entriesOn_17 rfl (lv_at hl 0 rfl) ?_
    refine lv_iload_n hx hb dX10_entriesOn_18 rfl (lv_at hl 1 rfl) ?_
    refine lv_iload_n hx hb dX10_entriesOn_19 rfl (lv_at hl 2 rfl) ?_
    refine r_V (own := RX10) (v := (some (.int (f_X10_audit u_2.2 dr ago)))) (st1 := [.int (f_X10_audit u_2.2 dr ago), .ref dh1]) (As := [.int dr, .int ago]) (rest := [.ref dh1]) (c_X10_audit l G dh0 dh1 dh2 dh3 dh4 dh5 dh6 dh7 u_2.2 dr ago) ⟨hx, hb, hml, hown, hts⟩ g_X10_130 hdv_X10_audit hK hST hS hP [0, 1, 2, 3, 4, 5, 6, 7] rfl (k0 := 0) rfl rfl rfl ⟨Nat.le_of_ble_eq_true rfl, Nat.le_of_ble_eq_true rfl⟩ ⟨Nat.le_of_ble_eq_true rfl, Nat.le_of_ble_eq_true rfl⟩ rfl hl.1 rfl (Nat.le_of_ble_eq_true rfl) dX10_entriesOn_20 rfl (fun b_4 => ?_)
    have h_5 := hok.1
    have hok := hok.2
    refine va_iald hx hb hK hP 1 0 rfl rfl h_5 dX10_entriesOn_23 ?_
    exact w_ret (u := ((u_2.2.1 (f_X10_audit u_2.2 dr ago).toNatClampNeg), u_2.2)) hx hb hr hlk rfl hS rfl hF.symm hP hD (Nat.le_of_ble_eq_true rfl) (Nat.le_of_ble_eq_true rfl) dX10_entriesOn_24
  · have hF := hF.trans (if_neg c_3)
    have hok := Eq.mp (if_neg c_3) hok
    refine lv_iconst (v := (0 : Int32)) hx hb dX10_entriesOn_9 (by decide) ?_
    refine lv_goto (tgt := 24) hx hb dX10_entriesOn_10 (by decide) ?_
    exact w_ret (u := ((0 : Int32), u_2.2)) hx hb hr hlk rfl hS rfl hF.symm hP hD (Nat.le_of_ble_eq_true rfl) (Nat.le_of_ble_eq_true rfl) dX10_entriesOn_24
theorem dX10_refusalsOn_0 : decode cX10_refusalsOn 0 = .ok (.aload_n 0, 1) := by decide +kernel
theorem dX10_refusalsOn_1 : decode cX10_refusalsOn 1 = .ok (.iload_n 1, 1) := by decide +kernel
theorem dX10_refusalsOn_2 : decode cX10_refusalsOn 2 = .ok (.iload_n 2, 1) := by decide +kernel
theorem dX10_refusalsOn_3 : decode cX10_refusalsOn 3 = .ok (.invokevirtual 157, 3) := by decide +kernel
theorem dX10_refusalsOn_6 : decode cX10_refusalsOn 6 = .ok (.ifCond .eq 7, 3) := by decide +kernel
theorem dX10_refusalsOn_13 : decode cX10_refusalsOn 13 = .ok (.aload_n 0, 1) := by decide +kernel
theorem dX10_refusalsOn_14 : decode cX10_refusalsOn 14 = .ok (.getfield 9, 3) := by decide +kernel
theorem dX10_refusalsOn_17 : decode cX10_refusalsOn 17 = .ok (.aload_n 0, 1) := by decide +kernel
theorem dX10_refusalsOn_18 : decode cX10_refusalsOn 18 = .ok (.iload_n 1, 1) := by decide +kernel
theorem dX10_refusalsOn_19 : decode cX10_refusalsOn 19 = .ok (.iload_n 2, 1) := by decide +kernel
theorem dX10_refusalsOn_20 : decode cX10_refusalsOn 20 = .ok (.invokevirtual 130, 3) := by decide +kernel
theorem dX10_refusalsOn_23 : decode cX10_refusalsOn 23 = .ok (.iconst 1, 1) := by decide +kernel
theorem dX10_refusalsOn_24 : decode cX10_refusalsOn 24 = .ok (.iadd, 1) := by decide +kernel
theorem dX10_refusalsOn_25 : decode cX10_refusalsOn 25 = .ok (.iaload, 1) := by decide +kernel
theorem dX10_refusalsOn_26 : decode cX10_refusalsOn 26 = .ok (.ireturn, 1) := by decide +kernel
theorem dX10_refusalsOn_9 : decode cX10_refusalsOn 9 = .ok (.iconst 0, 1) := by decide +kernel
theorem dX10_refusalsOn_10 : decode cX10_refusalsOn 10 = .ok (.goto 16, 3) := by decide +kernel
def f_X10_refusalsOn (d : MoV) (dr : Int32) (ago : Int32) : Int32 × MoV := (let u_2 : Int32 × MoV := (f_X10_isNoAudit d dr ago); (if u_2.1 = (0 : Int32) then ((u_2.2.1 ((f_X10_audit u_2.2 dr ago) + (1 : Int32)).toNatClampNeg), u_2.2) else ((0 : Int32), u_2.2)))
def ok_X10_refusalsOn (d : MoV) (dr : Int32) (ago : Int32) : Prop := (let u_2 : Int32 × MoV := (f_X10_isNoAudit d dr ago); (if u_2.1 = (0 : Int32) then (vp_in ((f_X10_audit u_2.2 dr ago) + (1 : Int32)) 249 ∧ True) else True))
set_option maxHeartbeats 4000000 in
set_option maxRecDepth 100000 in
theorem c_X10_refusalsOn (l : Launch) (G : GG) (dh0 : Nat) (dh1 : Nat) (dh2 : Nat) (dh3 : Nat) (dh4 : Nat) (dh5 : Nat) (dh6 : Nat) (dh7 : Nat) (sz : Nat) (d : MoV) (dr : Int32) (ago : Int32) (hok : ok_X10_refusalsOn d dr ago) : wMet l yX10_refusalsOn cX10_refusalsOn 3 (some .int) 4 0 0 G (fl [wMo G dh0 dh1 dh2 dh3 dh4 dh5 dh6 dh7 d]) [.ref dh0, .int dr, .int ago] sz (fun u : Int32 × MoV => some (.int u.1)) (fun u : Int32 × MoV => u = f_X10_refusalsOn d dr ago) (fun u : Int32 × MoV => fl [wMo G dh0 dh1 dh2 dh3 dh4 dh5 dh6 dh7 u.2]) := by
  refine w_start (by decide +kernel) (Nat.le_of_ble_eq_true rfl) ?_
  intro p e s m below meth c A hx hb hr hml hts hown hlk hin hP hD hA hK hST ls hl
  have hS : va_S A s.heap s.heap [] := va_S.rf
  have hown : s.vm.findClass RX10 = some m.cls := hown
  have hl : lv_has ls 3 [(0, .ref dh0), (1, .int dr), (2, .int ago)] := hl
  have hF : f_X10_refusalsOn d dr ago = (let u_2 : Int32 × MoV := (f_X10_isNoAudit d dr ago); (if u_2.1 = (0 : Int32) then ((u_2.2.1 ((f_X10_audit u_2.2 dr ago) + (1 : Int32)).toNatClampNeg), u_2.2) else ((0 : Int32), u_2.2))) := rfl
  have hok : (let u_2 : Int32 × MoV := (f_X10_isNoAudit d dr ago); (if u_2.1 = (0 : Int32) then (vp_in ((f_X10_audit u_2.2 dr ago) + (1 : Int32)) 249 ∧ True) else True)) := hok
  refine lv_aload_n hx hb dX10_refusalsOn_0 rfl (lv_at hl 0 rfl) ?_
  refine lv_iload_n hx hb dX10_refusalsOn_1 rfl (lv_at hl 1 rfl) ?_
  refine lv_iload_n hx hb dX10_refusalsOn_2 rfl (lv_at hl 2 rfl) ?_
  refine w_V (own := RX10) (cs := [wMo G dh0 dh1 dh2 dh3 dh4 dh5 dh6 dh7 d]) (rs := []) (As := [.int dr, .int ago]) (rest := []) (c_X10_isNoAudit l G dh0 dh1 dh2 dh3 dh4 dh5 dh6 dh7 s.heap.size d dr ago) ⟨hx, hb, hml, hown, hts⟩ g_X10_157 hdv_X10_isNoAudit hK hST hS hP hD hA [0] [] rfl rfl rfl (k0 := 0) rfl rfl rfl ⟨Nat.le_of_ble_eq_true rfl, Nat.le_of_ble_eq_true rfl⟩ ⟨Nat.le_of_ble_eq_true rfl, Nat.le_of_ble_eq_true rfl⟩ rfl hl.1 rfl (Nat.le_of_ble_eq_true rfl) dX10_refusalsOn_3 (fun u_2 H locs huu hP hD hS => ?_)
  obtain ⟨huu, b_1⟩ := huu
  rw [← huu] at b_1
  have eu_2 := huu
  have hP : va_P G.1 vwCl (fl [wMo G dh0 dh1 dh2 dh3 dh4 dh5 dh6 dh7 u_2.2]) H := hP
  have hD : va_D A (fl [wMo G dh0 dh1 dh2 dh3 dh4 dh5 dh6 dh7 u_2.2]) := hD
  refine W.eq (g2 := F0 m 6 ls [.int u_2.1]) rfl ?_
  have hF : f_X10_refusalsOn d dr ago = (if u_2.1 = (0 : Int32) then ((u_2.2.1 ((f_X10_audit u_2.2 dr ago) + (1 : Int32)).toNatClampNeg), u_2.2) else ((0 : Int32), u_2.2)) := by subst eu_2; exact hF
  have hok : (if u_2.1 = (0 : Int32) then (vp_in ((f_X10_audit u_2.2 dr ago) + (1 : Int32)) 249 ∧ True) else True) := by subst eu_2; exact hok
  refine lv_if_eq (tgt := 13) hx hb dX10_refusalsOn_6 (by decide) (fun c_3 => ?_) (fun c_3 => ?_)
  · have hF := hF.trans (if_pos c_3)
    have hok := Eq.mp (if_pos c_3) hok
    refine lv_aload_n hx hb dX10_refusalsOn_13 rfl (lv_at hl 0 rfl) ?_
    refine va_get (D := G.1) (ci := 12) (v := .ref dh1) (C := RX10) (T := TX10) (N := 17) hx hb hts uws_X10 hown hK hP 0 rfl rfl 0 (by decide) (hts _ u_1680) (fun _ h9 => h9) rfl dX10_refusalsOn_14 ?_
    refine lv_aload_n hx hb dX10_refusalsOn_17 rfl (lv_at hl 0 rfl) ?_
    refine lv_iload_n hx hb dX10_refusalsOn_18 rfl (lv_at hl 1 rfl) ?_
    refine lv_iload_n hx hb dX10_refusalsOn_19 rfl (lv_at hl 2 rfl) ?_
    refine r_V (own := RX10) (v := (some (.int (f_X10_audit u_2.2 dr ago)))) (st1 := [.int (f_X10_audit u_2.2 dr ago), .ref dh1]) (As := [.int dr, .int ago]) (rest := [.ref dh1]) (c_X10_audit l G dh0 dh1 dh2 dh3 dh4 dh5 dh6 dh7 u_2.2 dr ago) ⟨hx, hb, hml, hown, hts⟩ g_X10_130 hdv_X10_audit hK hST hS hP [0, 1, 2, 3, 4, 5, 6, 7] rfl (k0 := 0) rfl rfl rfl ⟨Nat.le_of_ble_eq_true rfl, Nat.le_of_ble_eq_true rfl⟩ ⟨Nat.le_of_ble_eq_true rfl, Nat.le_of_ble_eq_true rfl⟩ rfl hl.1 rfl (Nat.le_of_ble_eq_true rfl) dX10_refusalsOn_20 rfl (fun b_4 => ?_)
    refine lv_iconst (v := (1 : Int32)) hx hb dX10_refusalsOn_23 (by decide) ?_
    refine lv_iadd hx hb dX10_refusalsOn_24 ?_
    have h_5 := hok.1
    have hok := hok.2
    refine va_iald hx hb hK hP 1 0 rfl rfl h_5 dX10_refusalsOn_25 ?_
    exact w_ret (u := ((u_2.2.1 ((f_X10_audit u_2.2 dr ago) + (1 : Int32)).toNatClampNeg), u_2.2)) hx hb hr hlk rfl hS rfl hF.symm hP hD (Nat.le_of_ble_eq_true rfl) (Nat.le_of_ble_eq_true rfl) dX10_refusalsOn_26
  · have hF := hF.trans (if_neg c_3)
    have hok := Eq.mp (if_neg c_3) hok
    refine lv_iconst (v := (0 : Int32)) hx hb dX10_refusalsOn_9 (by decide) ?_
    refine lv_goto (tgt := 26) hx hb dX10_refusalsOn_10 (by decide) ?_
    exact w_ret (u := ((0 : Int32), u_2.2)) hx hb hr hlk rfl hS rfl hF.symm hP hD (Nat.le_of_ble_eq_true rfl) (Nat.le_of_ble_eq_true rfl) dX10_refusalsOn_26
theorem dX10_logged_0 : decode cX10_logged 0 = .ok (.aload_n 0, 1) := by decide +kernel
theorem dX10_logged_1 : decode cX10_logged 1 = .ok (.iload_n 1, 1) := by decide +kernel
theorem dX10_logged_2 : decode cX10_logged 2 = .ok (.iconst 0, 1) := by decide +kernel
theorem dX10_logged_3 : decode cX10_logged 3 = .ok (.aload_n 0, 1) := by decide +kernel
theorem dX10_logged_4 : decode cX10_logged 4 = .ok (.getfield 9, 3) := by decide +kernel
theorem dX10_logged_7 : decode cX10_logged 7 = .ok (.iconst 5, 1) := by decide +kernel
theorem dX10_logged_8 : decode cX10_logged 8 = .ok (.iaload, 1) := by decide +kernel
theorem dX10_logged_9 : decode cX10_logged 9 = .ok (.iconst 1, 1) := by decide +kernel
theorem dX10_logged_10 : decode cX10_logged 10 = .ok (.isub, 1) := by decide +kernel
theorem dX10_logged_11 : decode cX10_logged 11 = .ok (.invokestatic 48, 3) := by decide +kernel
theorem dX10_logged_14 : decode cX10_logged 14 = .ok (.ifCond .ne 7, 3) := by decide +kernel
theorem dX10_logged_21 : decode cX10_logged 21 = .ok (.iconst 0, 1) := by decide +kernel
theorem dX10_logged_22 : decode cX10_logged 22 = .ok (.iconst 1, 1) := by decide +kernel
theorem dX10_logged_23 : decode cX10_logged 23 = .ok (.invokevirtual 63, 3) := by decide +kernel
theorem dX10_logged_26 : decode cX10_logged 26 = .ok (.ifCond .eq 7, 3) := by decide +kernel
theorem dX10_logged_33 : decode cX10_logged 33 = .ok (.aload_n 0, 1) := by decide +kernel
theorem dX10_logged_34 : decode cX10_logged 34 = .ok (.getfield 9, 3) := by decide +kernel
theorem dX10_logged_37 : decode cX10_logged 37 = .ok (.bipush 91, 2) := by decide +kernel
theorem dX10_logged_39 : decode cX10_logged 39 = .ok (.iconst 3, 1) := by decide +kernel
theorem dX10_logged_40 : decode cX10_logged 40 = .ok (.iload_n 1, 1) := by decide +kernel
theorem dX10_logged_41 : decode cX10_logged 41 = .ok (.imul, 1) := by decide +kernel
theorem dX10_logged_42 : decode cX10_logged 42 = .ok (.iadd, 1) := by decide +kernel
theorem dX10_logged_43 : decode cX10_logged 43 = .ok (.iload_n 2, 1) := by decide +kernel
theorem dX10_logged_44 : decode cX10_logged 44 = .ok (.iadd, 1) := by decide +kernel
theorem dX10_logged_45 : decode cX10_logged 45 = .ok (.iaload, 1) := by decide +kernel
theorem dX10_logged_46 : decode cX10_logged 46 = .ok (.ireturn, 1) := by decide +kernel
theorem dX10_logged_17 : decode cX10_logged 17 = .ok (.iconst 1, 1) := by decide +kernel
theorem dX10_logged_18 : decode cX10_logged 18 = .ok (.goto 4, 3) := by decide +kernel
theorem dX10_logged_29 : decode cX10_logged 29 = .ok (.iconst 0, 1) := by decide +kernel
theorem dX10_logged_30 : decode cX10_logged 30 = .ok (.goto 16, 3) := by decide +kernel
def f_X10_logged (d : MoV) (rc : Int32) (wh : Int32) : Int32 × MoV := (if (f_X10_isIn rc (0 : Int32) ((d.1 (5 : Int32).toNatClampNeg) - (1 : Int32))) = (0 : Int32) then (let u_8 : MoV := (f_X10_isThrown d (1 : Int32) (1 : Int32)); ((0 : Int32), u_8)) else (let u_4 : MoV := (f_X10_isThrown d (0 : Int32) (1 : Int32)); ((u_4.1 (((91 : Int32) + ((3 : Int32) * rc)) + wh).toNatClampNeg), u_4)))
def ok_X10_logged (d : MoV) (rc : Int32) (wh : Int32) : Prop := (if (f_X10_isIn rc (0 : Int32) ((d.1 (5 : Int32).toNatClampNeg) - (1 : Int32))) = (0 : Int32) then True else (let u_4 : MoV := (f_X10_isThrown d (0 : Int32) (1 : Int32)); (vp_in (((91 : Int32) + ((3 : Int32) * rc)) + wh) 249 ∧ True)))
set_option maxHeartbeats 4000000 in
set_option maxRecDepth 100000 in
theorem c_X10_logged (l : Launch) (G : GG) (dh0 : Nat) (dh1 : Nat) (dh2 : Nat) (dh3 : Nat) (dh4 : Nat) (dh5 : Nat) (dh6 : Nat) (dh7 : Nat) (sz : Nat) (d : MoV) (rc : Int32) (wh : Int32) (hok : ok_X10_logged d rc wh) : wMet l yX10_logged cX10_logged 3 (some .int) 2 0 0 G (fl [wMo G dh0 dh1 dh2 dh3 dh4 dh5 dh6 dh7 d]) [.ref dh0, .int rc, .int wh] sz (fun u : Int32 × MoV => some (.int u.1)) (fun u : Int32 × MoV => u = f_X10_logged d rc wh) (fun u : Int32 × MoV => fl [wMo G dh0 dh1 dh2 dh3 dh4 dh5 dh6 dh7 u.2]) := by
  refine w_start (by decide +kernel) (Nat.le_of_ble_eq_true rfl) ?_
  intro p e s m below meth c A hx hb hr hml hts hown hlk hin hP hD hA hK hST ls hl
  have hS : va_S A s.heap s.heap [] := va_S.rf
  have hown : s.vm.findClass RX10 = some m.cls := hown
  have hl : lv_has ls 3 [(0, .ref dh0), (1, .int rc), (2, .int wh)] := hl
  have hF : f_X10_logged d rc wh = (if (f_X10_isIn rc (0 : Int32) ((d.1 (5 : Int32).toNatClampNeg) - (1 : Int32))) = (0 : Int32) then (let u_8 : MoV := (f_X10_isThrown d (1 : Int32) (1 : Int32)); ((0 : Int32), u_8)) else (let u_4 : MoV := (f_X10_isThrown d (0 : Int32) (1 : Int32)); ((u_4.1 (((91 : Int32) + ((3 : Int32) * rc)) + wh).toNatClampNeg), u_4))) := rfl
  have hok : (if (f_X10_isIn rc (0 : Int32) ((d.1 (5 : Int32).toNatClampNeg) - (1 : Int32))) = (0 : Int32) then True else (let u_4 : MoV := (f_X10_isThrown d (0 : Int32) (1 : Int32)); (vp_in (((91 : Int32) + ((3 : Int32) * rc)) + wh) 249 ∧ True))) := hok
  refine lv_aload_n hx hb dX10_logged_0 rfl (lv_at hl 0 rfl) ?_
  refine lv_iload_n hx hb dX10_logged_1 rfl (lv_at hl 1 rfl) ?_
  refine lv_iconst (v := (0 : Int32)) hx hb dX10_logged_2 (by decide) ?_
  refine lv_aload_n hx hb dX10_logged_3 rfl (lv_at hl 0 rfl) ?_
  refine va_get (D := G.1) (ci := 12) (v := .ref dh1) (C := RX10) (T := TX10) (N := 17) hx hb hts uws_X10 hown hK hP 0 rfl rfl 0 (by decide) (hts _ u_1680) (fun _ h9 => h9) rfl dX10_logged_4 ?_
  refine lv_iconst (v := (5 : Int32)) hx hb dX10_logged_7 (by decide) ?_
  refine va_iald hx hb hK hP 1 0 rfl rfl (vp_in_nI (n := 5) (by decide) (by decide)) dX10_logged_8 ?_
  refine lv_iconst (v := (1 : Int32)) hx hb dX10_logged_9 (by decide) ?_
  refine lv_isub hx hb dX10_logged_10 ?_
  refine r_S (own := RX10) (v := (some (.int (f_X10_isIn rc (0 : Int32) ((d.1 (5 : Int32).toNatClampNeg) - (1 : Int32)))))) (st1 := [.int (f_X10_isIn rc (0 : Int32) ((d.1 (5 : Int32).toNatClampNeg) - (1 : Int32))), .ref dh0]) (As := [.int rc, .int (0 : Int32), .int ((d.1 (5 : Int32).toNatClampNeg) - (1 : Int32))]) (rest := [.ref dh0]) (c_X10_isIn l G rc (0 : Int32) ((d.1 (5 : Int32).toNatClampNeg) - (1 : Int32))) ⟨hx, hb, hml, hown, hts⟩ g_X10_48 hds_X10_isIn hK hST hS hP [] rfl ⟨Nat.le_of_ble_eq_true rfl, Nat.le_of_ble_eq_true rfl⟩ ⟨Nat.le_of_ble_eq_true rfl, Nat.le_of_ble_eq_true rfl⟩ rfl hl.1 rfl (Nat.le_of_ble_eq_true rfl) dX10_logged_11 rfl (fun b_1 => ?_)
  refine lv_if_ne (tgt := 21) hx hb dX10_logged_14 (by decide) (fun c_2 => ?_) (fun c_2 => ?_)
  · have hF := hF.trans (if_neg c_2)
    have hok := Eq.mp (if_neg c_2) hok
    refine lv_iconst (v := (0 : Int32)) hx hb dX10_logged_21 (by decide) ?_
    refine lv_iconst (v := (1 : Int32)) hx hb dX10_logged_22 (by decide) ?_
    refine w_V (own := RX10) (cs := [wMo G dh0 dh1 dh2 dh3 dh4 dh5 dh6 dh7 d]) (rs := []) (As := [.int (0 : Int32), .int (1 : Int32)]) (rest := []) (c_X10_isThrown l G dh0 dh1 dh2 dh3 dh4 dh5 dh6 dh7 s.heap.size d (0 : Int32) (1 : Int32) (rfl)) ⟨hx, hb, hml, hown, hts⟩ g_X10_63 hdv_X10_isThrown hK hST hS hP hD hA [0] [] rfl rfl rfl (k0 := 0) rfl rfl rfl ⟨Nat.le_of_ble_eq_true rfl, Nat.le_of_ble_eq_true rfl⟩ ⟨Nat.le_of_ble_eq_true rfl, Nat.le_of_ble_eq_true rfl⟩ rfl hl.1 rfl (Nat.le_of_ble_eq_true rfl) dX10_logged_23 (fun u_4 H locs huu hP hD hS => ?_)
    have eu_4 := huu
    have hP : va_P G.1 vwCl (fl [wMo G dh0 dh1 dh2 dh3 dh4 dh5 dh6 dh7 u_4]) H := hP
    have hD : va_D A (fl [wMo G dh0 dh1 dh2 dh3 dh4 dh5 dh6 dh7 u_4]) := hD
    refine W.eq (g2 := F0 m 26 ls [.int (0 : Int32)]) rfl ?_
    have hF : f_X10_logged d rc wh = ((u_4.1 (((91 : Int32) + ((3 : Int32) * rc)) + wh).toNatClampNeg), u_4) := by subst eu_4; exact hF
    have hok : (vp_in (((91 : Int32) + ((3 : Int32) * rc)) + wh) 249 ∧ True) := by subst eu_4; exact hok
    refine lv_if_eq (tgt := 33) hx hb dX10_logged_26 (by decide) (fun c_5 => ?_) (fun c_5 => ?_)
    · refine lv_aload_n hx hb dX10_logged_33 rfl (lv_at hl 0 rfl) ?_
      refine va_get (D := G.1) (ci := 12) (v := .ref dh1) (C := RX10) (T := TX10) (N := 17) hx hb hts uws_X10 hown hK hP 0 rfl rfl 0 (by decide) (hts _ u_1680) (fun _ h9 => h9) rfl dX10_logged_34 ?_
      refine lv_bipush (v := (91 : Int32)) hx hb dX10_logged_37 (by decide) ?_
      refine lv_iconst (v := (3 : Int32)) hx hb dX10_logged_39 (by decide) ?_
      refine lv_iload_n hx hb dX10_logged_40 rfl (lv_at hl 1 rfl) ?_
      refine lv_imul hx hb dX10_logged_41 ?_
      refine lv_iadd hx hb dX10_logged_42 ?_
      refine lv_iload_n hx hb dX10_logged_43 rfl (lv_at hl 2 rfl) ?_
      refine lv_iadd hx hb dX10_logged_44 ?_
      have h_6 := hok.1
      have hok := hok.2
      refine va_iald hx hb hK hP 1 0 rfl rfl h_6 dX10_logged_45 ?_
      exact w_ret (u := ((u_4.1 (((91 : Int32) + ((3 : Int32) * rc)) + wh).toNatClampNeg), u_4)) hx hb hr hlk rfl hS rfl hF.symm hP hD (Nat.le_of_ble_eq_true rfl) (Nat.le_of_ble_eq_true rfl) dX10_logged_46
    · exact absurd c_5 (by decide)
  · have hF := hF.trans (if_pos c_2)
    have hok := Eq.mp (if_pos c_2) hok
    refine lv_iconst (v := (1 : Int32)) hx hb dX10_logged_17 (by decide) ?_
    refine lv_goto (tgt := 22) hx hb dX10_logged_18 (by decide) ?_
    refine lv_iconst (v := (1 : Int32)) hx hb dX10_logged_22 (by decide) ?_
    refine w_V (own := RX10) (cs := [wMo G dh0 dh1 dh2 dh3 dh4 dh5 dh6 dh7 d]) (rs := []) (As := [.int (1 : Int32), .int (1 : Int32)]) (rest := []) (c_X10_isThrown l G dh0 dh1 dh2 dh3 dh4 dh5 dh6 dh7 s.heap.size d (1 : Int32) (1 : Int32) (rfl)) ⟨hx, hb, hml, hown, hts⟩ g_X10_63 hdv_X10_isThrown hK hST hS hP hD hA [0] [] rfl rfl rfl (k0 := 0) rfl rfl rfl ⟨Nat.le_of_ble_eq_true rfl, Nat.le_of_ble_eq_true rfl⟩ ⟨Nat.le_of_ble_eq_true rfl, Nat.le_of_ble_eq_true rfl⟩ rfl hl.1 rfl (Nat.le_of_ble_eq_true rfl) dX10_logged_23 (fun u_8 H locs huu hP hD hS => ?_)
    have eu_8 := huu
    have hP : va_P G.1 vwCl (fl [wMo G dh0 dh1 dh2 dh3 dh4 dh5 dh6 dh7 u_8]) H := hP
    have hD : va_D A (fl [wMo G dh0 dh1 dh2 dh3 dh4 dh5 dh6 dh7 u_8]) := hD
    refine W.eq (g2 := F0 m 26 ls [.int (1 : Int32)]) rfl ?_
    have hF : f_X10_logged d rc wh = ((0 : Int32), u_8) := by subst eu_8; exact hF
    refine lv_if_eq (tgt := 33) hx hb dX10_logged_26 (by decide) (fun c_9 => ?_) (fun c_9 => ?_)
    · exact absurd c_9 (by decide)
    · refine lv_iconst (v := (0 : Int32)) hx hb dX10_logged_29 (by decide) ?_
      refine lv_goto (tgt := 46) hx hb dX10_logged_30 (by decide) ?_
      exact w_ret (u := ((0 : Int32), u_8)) hx hb hr hlk rfl hS rfl hF.symm hP hD (Nat.le_of_ble_eq_true rfl) (Nat.le_of_ble_eq_true rfl) dX10_logged_46
theorem dX10_loggedPerson_0 : decode cX10_loggedPerson 0 = .ok (.aload_n 0, 1) := by decide +kernel
theorem dX10_loggedPerson_1 : decode cX10_loggedPerson 1 = .ok (.iload_n 1, 1) := by decide +kernel
theorem dX10_loggedPerson_2 : decode cX10_loggedPerson 2 = .ok (.iconst 0, 1) := by decide +kernel
theorem dX10_loggedPerson_3 : decode cX10_loggedPerson 3 = .ok (.invokevirtual 160, 3) := by decide +kernel
theorem u_2020 : Cond.methodLink RX10 160 yX10_logged ∈ UW := uw 2020 (by decide +kernel) rfl
theorem u_2022 : Cond.instanceMethod yX10_logged ∈ UW := uw 2022 (by decide +kernel) rfl
theorem u_49 : Cond.selects RX10 yX10_logged yX10_logged ∈ UW := uw 49 (by decide +kernel) rfl
theorem u_2023 : Cond.code yX10_logged cX10_logged 3 (some .int) ∈ UW := uw 2023 (by decide +kernel) rfl
theorem g_X10_160 : GoodIn UW (wsV RX10 160 RX10 yX10_logged (wsU yX10_logged cX10_logged 3 (some .int))) := gV u_2020 u_2022 u_49 u_77 u_2023
theorem hdv_X10_logged : yX10_logged.cls = RX10 ∧ yX10_logged.cls ≠ "java/lang/invoke/MethodHandle" ∧ yX10_logged.cls ≠ "java/lang/invoke/VarHandle" ∧ (parseMethodDescriptor yX10_logged.desc).map (fun d => d.parameters.length) = some 2 := by decide +kernel
theorem dX10_loggedPerson_6 : decode cX10_loggedPerson 6 = .ok (.ireturn, 1) := by decide +kernel
def f_X10_loggedPerson (d : MoV) (rc : Int32) : Int32 × MoV := (let u_3 : Int32 × MoV := (f_X10_logged d rc (0 : Int32)); (u_3.1, u_3.2))
def ok_X10_loggedPerson (d : MoV) (rc : Int32) : Prop := (ok_X10_logged d rc (0 : Int32) ∧ True)
set_option maxHeartbeats 4000000 in
set_option maxRecDepth 100000 in
theorem c_X10_loggedPerson (l : Launch) (G : GG) (dh0 : Nat) (dh1 : Nat) (dh2 : Nat) (dh3 : Nat) (dh4 : Nat) (dh5 : Nat) (dh6 : Nat) (dh7 : Nat) (sz : Nat) (d : MoV) (rc : Int32) (hok : ok_X10_loggedPerson d rc) : wMet l yX10_loggedPerson cX10_loggedPerson 2 (some .int) 3 0 0 G (fl [wMo G dh0 dh1 dh2 dh3 dh4 dh5 dh6 dh7 d]) [.ref dh0, .int rc] sz (fun u : Int32 × MoV => some (.int u.1)) (fun u : Int32 × MoV => u = f_X10_loggedPerson d rc) (fun u : Int32 × MoV => fl [wMo G dh0 dh1 dh2 dh3 dh4 dh5 dh6 dh7 u.2]) := by
  refine w_start (by decide +kernel) (Nat.le_of_ble_eq_true rfl) ?_
  intro p e s m below meth c A hx hb hr hml hts hown hlk hin hP hD hA hK hST ls hl
  have hS : va_S A s.heap s.heap [] := va_S.rf
  have hown : s.vm.findClass RX10 = some m.cls := hown
  have hl : lv_has ls 2 [(0, .ref dh0), (1, .int rc)] := hl
  have hF : f_X10_loggedPerson d rc = (let u_3 : Int32 × MoV := (f_X10_logged d rc (0 : Int32)); (u_3.1, u_3.2)) := rfl
  have hok : (ok_X10_logged d rc (0 : Int32) ∧ True) := hok
  refine lv_aload_n hx hb dX10_loggedPerson_0 rfl (lv_at hl 0 rfl) ?_
  refine lv_iload_n hx hb dX10_loggedPerson_1 rfl (lv_at hl 1 rfl) ?_
  refine lv_iconst (v := (0 : Int32)) hx hb dX10_loggedPerson_2 (by decide) ?_
  have k_1 := hok.1
  have hok := hok.2
  refine w_V (own := RX10) (cs := [wMo G dh0 dh1 dh2 dh3 dh4 dh5 dh6 dh7 d]) (rs := []) (As := [.int rc, .int (0 : Int32)]) (rest := []) (c_X10_logged l G dh0 dh1 dh2 dh3 dh4 dh5 dh6 dh7 s.heap.size d rc (0 : Int32) k_1) ⟨hx, hb, hml, hown, hts⟩ g_X10_160 hdv_X10_logged hK hST hS hP hD hA [0] [] rfl rfl rfl (k0 := 0) rfl rfl rfl ⟨Nat.le_of_ble_eq_true rfl, Nat.le_of_ble_eq_true rfl⟩ ⟨Nat.le_of_ble_eq_true rfl, Nat.le_of_ble_eq_true rfl⟩ rfl hl.1 rfl (Nat.le_of_ble_eq_true rfl) dX10_loggedPerson_3 (fun u_3 H locs huu hP hD hS => ?_)
  have eu_3 := huu
  have hP : va_P G.1 vwCl (fl [wMo G dh0 dh1 dh2 dh3 dh4 dh5 dh6 dh7 u_3.2]) H := hP
  have hD : va_D A (fl [wMo G dh0 dh1 dh2 dh3 dh4 dh5 dh6 dh7 u_3.2]) := hD
  refine W.eq (g2 := F0 m 6 ls [.int u_3.1]) rfl ?_
  have hF : f_X10_loggedPerson d rc = (u_3.1, u_3.2) := by subst eu_3; exact hF
  exact w_ret (u := (u_3.1, u_3.2)) hx hb hr hlk rfl hS rfl hF.symm hP hD (Nat.le_of_ble_eq_true rfl) (Nat.le_of_ble_eq_true rfl) dX10_loggedPerson_6
theorem dX10_loggedDoor_0 : decode cX10_loggedDoor 0 = .ok (.aload_n 0, 1) := by decide +kernel
theorem dX10_loggedDoor_1 : decode cX10_loggedDoor 1 = .ok (.iload_n 1, 1) := by decide +kernel
theorem dX10_loggedDoor_2 : decode cX10_loggedDoor 2 = .ok (.iconst 1, 1) := by decide +kernel
theorem dX10_loggedDoor_3 : decode cX10_loggedDoor 3 = .ok (.invokevirtual 160, 3) := by decide +kernel
theorem dX10_loggedDoor_6 : decode cX10_loggedDoor 6 = .ok (.ireturn, 1) := by decide +kernel
def f_X10_loggedDoor (d : MoV) (rc : Int32) : Int32 × MoV := (let u_3 : Int32 × MoV := (f_X10_logged d rc (1 : Int32)); (u_3.1, u_3.2))
def ok_X10_loggedDoor (d : MoV) (rc : Int32) : Prop := (ok_X10_logged d rc (1 : Int32) ∧ True)
set_option maxHeartbeats 4000000 in
set_option maxRecDepth 100000 in
theorem c_X10_loggedDoor (l : Launch) (G : GG) (dh0 : Nat) (dh1 : Nat) (dh2 : Nat) (dh3 : Nat) (dh4 : Nat) (dh5 : Nat) (dh6 : Nat) (dh7 : Nat) (sz : Nat) (d : MoV) (rc : Int32) (hok : ok_X10_loggedDoor d rc) : wMet l yX10_loggedDoor cX10_loggedDoor 2 (some .int) 3 0 0 G (fl [wMo G dh0 dh1 dh2 dh3 dh4 dh5 dh6 dh7 d]) [.ref dh0, .int rc] sz (fun u : Int32 × MoV => some (.int u.1)) (fun u : Int32 × MoV => u = f_X10_loggedDoor d rc) (fun u : Int32 × MoV => fl [wMo G dh0 dh1 dh2 dh3 dh4 dh5 dh6 dh7 u.2]) := by
  refine w_start (by decide +kernel) (Nat.le_of_ble_eq_true rfl) ?_
  intro p e s m below meth c A hx hb hr hml hts hown hlk hin hP hD hA hK hST ls hl
  have hS : va_S A s.heap s.heap [] := va_S.rf
  have hown : s.vm.findClass RX10 = some m.cls := hown
  have hl : lv_has ls 2 [(0, .ref dh0), (1, .int rc)] := hl
  have hF : f_X10_loggedDoor d rc = (let u_3 : Int32 × MoV := (f_X10_logged d rc (1 : Int32)); (u_3.1, u_3.2)) := rfl
  have hok : (ok_X10_logged d rc (1 : Int32) ∧ True) := hok
  refine lv_aload_n hx hb dX10_loggedDoor_0 rfl (lv_at hl 0 rfl) ?_
  refine lv_iload_n hx hb dX10_loggedDoor_1 rfl (lv_at hl 1 rfl) ?_
  refine lv_iconst (v := (1 : Int32)) hx hb dX10_loggedDoor_2 (by decide) ?_
  have k_1 := hok.1
  have hok := hok.2
  refine w_V (own := RX10) (cs := [wMo G dh0 dh1 dh2 dh3 dh4 dh5 dh6 dh7 d]) (rs := []) (As := [.int rc, .int (1 : Int32)]) (rest := []) (c_X10_logged l G dh0 dh1 dh2 dh3 dh4 dh5 dh6 dh7 s.heap.size d rc (1 : Int32) k_1) ⟨hx, hb, hml, hown, hts⟩ g_X10_160 hdv_X10_logged hK hST hS hP hD hA [0] [] rfl rfl rfl (k0 := 0) rfl rfl rfl ⟨Nat.le_of_ble_eq_true rfl, Nat.le_of_ble_eq_true rfl⟩ ⟨Nat.le_of_ble_eq_true rfl, Nat.le_of_ble_eq_true rfl⟩ rfl hl.1 rfl (Nat.le_of_ble_eq_true rfl) dX10_loggedDoor_3 (fun u_3 H locs huu hP hD hS => ?_)
  have eu_3 := huu
  have hP : va_P G.1 vwCl (fl [wMo G dh0 dh1 dh2 dh3 dh4 dh5 dh6 dh7 u_3.2]) H := hP
  have hD : va_D A (fl [wMo G dh0 dh1 dh2 dh3 dh4 dh5 dh6 dh7 u_3.2]) := hD
  refine W.eq (g2 := F0 m 6 ls [.int u_3.1]) rfl ?_
  have hF : f_X10_loggedDoor d rc = (u_3.1, u_3.2) := by subst eu_3; exact hF
  exact w_ret (u := (u_3.1, u_3.2)) hx hb hr hlk rfl hS rfl hF.symm hP hD (Nat.le_of_ble_eq_true rfl) (Nat.le_of_ble_eq_true rfl) dX10_loggedDoor_6
theorem dX10_loggedResult_0 : decode cX10_loggedResult 0 = .ok (.aload_n 0, 1) := by decide +kernel
theorem dX10_loggedResult_1 : decode cX10_loggedResult 1 = .ok (.iload_n 1, 1) := by decide +kernel
theorem dX10_loggedResult_2 : decode cX10_loggedResult 2 = .ok (.iconst 2, 1) := by decide +kernel
theorem dX10_loggedResult_3 : decode cX10_loggedResult 3 = .ok (.invokevirtual 160, 3) := by decide +kernel
theorem dX10_loggedResult_6 : decode cX10_loggedResult 6 = .ok (.ireturn, 1) := by decide +kernel
def f_X10_loggedResult (d : MoV) (rc : Int32) : Int32 × MoV := (let u_3 : Int32 × MoV := (f_X10_logged d rc (2 : Int32)); (u_3.1, u_3.2))
def ok_X10_loggedResult (d : MoV) (rc : Int32) : Prop := (ok_X10_logged d rc (2 : Int32) ∧ True)
set_option maxHeartbeats 4000000 in
set_option maxRecDepth 100000 in
theorem c_X10_loggedResult (l : Launch) (G : GG) (dh0 : Nat) (dh1 : Nat) (dh2 : Nat) (dh3 : Nat) (dh4 : Nat) (dh5 : Nat) (dh6 : Nat) (dh7 : Nat) (sz : Nat) (d : MoV) (rc : Int32) (hok : ok_X10_loggedResult d rc) : wMet l yX10_loggedResult cX10_loggedResult 2 (some .int) 3 0 0 G (fl [wMo G dh0 dh1 dh2 dh3 dh4 dh5 dh6 dh7 d]) [.ref dh0, .int rc] sz (fun u : Int32 × MoV => some (.int u.1)) (fun u : Int32 × MoV => u = f_X10_loggedResult d rc) (fun u : Int32 × MoV => fl [wMo G dh0 dh1 dh2 dh3 dh4 dh5 dh6 dh7 u.2]) := by
  refine w_start (by decide +kernel) (Nat.le_of_ble_eq_true rfl) ?_
  intro p e s m below meth c A hx hb hr hml hts hown hlk hin hP hD hA hK hST ls hl
  have hS : va_S A s.heap s.heap [] := va_S.rf
  have hown : s.vm.findClass RX10 = some m.cls := hown
  have hl : lv_has ls 2 [(0, .ref dh0), (1, .int rc)] := hl
  have hF : f_X10_loggedResult d rc = (let u_3 : Int32 × MoV := (f_X10_logged d rc (2 : Int32)); (u_3.1, u_3.2)) := rfl
  have hok : (ok_X10_logged d rc (2 : Int32) ∧ True) := hok
  refine lv_aload_n hx hb dX10_loggedResult_0 rfl (lv_at hl 0 rfl) ?_
  refine lv_iload_n hx hb dX10_loggedResult_1 rfl (lv_at hl 1 rfl) ?_
  refine lv_iconst (v := (2 : Int32)) hx hb dX10_loggedResult_2 (by decide) ?_
  have k_1 := hok.1
  have hok := hok.2
  refine w_V (own := RX10) (cs := [wMo G dh0 dh1 dh2 dh3 dh4 dh5 dh6 dh7 d]) (rs := []) (As := [.int rc, .int (2 : Int32)]) (rest := []) (c_X10_logged l G dh0 dh1 dh2 dh3 dh4 dh5 dh6 dh7 s.heap.size d rc (2 : Int32) k_1) ⟨hx, hb, hml, hown, hts⟩ g_X10_160 hdv_X10_logged hK hST hS hP hD hA [0] [] rfl rfl rfl (k0 := 0) rfl rfl rfl ⟨Nat.le_of_ble_eq_true rfl, Nat.le_of_ble_eq_true rfl⟩ ⟨Nat.le_of_ble_eq_true rfl, Nat.le_of_ble_eq_true rfl⟩ rfl hl.1 rfl (Nat.le_of_ble_eq_true rfl) dX10_loggedResult_3 (fun u_3 H locs huu hP hD hS => ?_)
  have eu_3 := huu
  have hP : va_P G.1 vwCl (fl [wMo G dh0 dh1 dh2 dh3 dh4 dh5 dh6 dh7 u_3.2]) H := hP
  have hD : va_D A (fl [wMo G dh0 dh1 dh2 dh3 dh4 dh5 dh6 dh7 u_3.2]) := hD
  refine W.eq (g2 := F0 m 6 ls [.int u_3.1]) rfl ?_
  have hF : f_X10_loggedResult d rc = (u_3.1, u_3.2) := by subst eu_3; exact hF
  exact w_ret (u := (u_3.1, u_3.2)) hx hb hr hlk rfl hS rfl hF.symm hP hD (Nat.le_of_ble_eq_true rfl) (Nat.le_of_ble_eq_true rfl) dX10_loggedResult_6
theorem dX10_attemptsWith_0 : decode cX10_attemptsWith 0 = .ok (.aload_n 0, 1) := by decide +kernel
theorem dX10_attemptsWith_1 : decode cX10_attemptsWith 1 = .ok (.iload_n 1, 1) := by decide +kernel
theorem dX10_attemptsWith_2 : decode cX10_attemptsWith 2 = .ok (.iconst 0, 1) := by decide +kernel
theorem dX10_attemptsWith_3 : decode cX10_attemptsWith 3 = .ok (.iconst 4, 1) := by decide +kernel
theorem dX10_attemptsWith_4 : decode cX10_attemptsWith 4 = .ok (.invokestatic 48, 3) := by decide +kernel
theorem dX10_attemptsWith_7 : decode cX10_attemptsWith 7 = .ok (.ifCond .ne 7, 3) := by decide +kernel
theorem dX10_attemptsWith_14 : decode cX10_attemptsWith 14 = .ok (.iconst 0, 1) := by decide +kernel
theorem dX10_attemptsWith_15 : decode cX10_attemptsWith 15 = .ok (.iconst 1, 1) := by decide +kernel
theorem dX10_attemptsWith_16 : decode cX10_attemptsWith 16 = .ok (.invokevirtual 63, 3) := by decide +kernel
theorem dX10_attemptsWith_19 : decode cX10_attemptsWith 19 = .ok (.ifCond .eq 7, 3) := by decide +kernel
theorem dX10_attemptsWith_26 : decode cX10_attemptsWith 26 = .ok (.aload_n 0, 1) := by decide +kernel
theorem dX10_attemptsWith_27 : decode cX10_attemptsWith 27 = .ok (.getfield 9, 3) := by decide +kernel
theorem dX10_attemptsWith_30 : decode cX10_attemptsWith 30 = .ok (.bipush 6, 2) := by decide +kernel
theorem dX10_attemptsWith_32 : decode cX10_attemptsWith 32 = .ok (.iload_n 1, 1) := by decide +kernel
theorem dX10_attemptsWith_33 : decode cX10_attemptsWith 33 = .ok (.iadd, 1) := by decide +kernel
theorem dX10_attemptsWith_34 : decode cX10_attemptsWith 34 = .ok (.iaload, 1) := by decide +kernel
theorem dX10_attemptsWith_35 : decode cX10_attemptsWith 35 = .ok (.ireturn, 1) := by decide +kernel
theorem dX10_attemptsWith_10 : decode cX10_attemptsWith 10 = .ok (.iconst 1, 1) := by decide +kernel
theorem dX10_attemptsWith_11 : decode cX10_attemptsWith 11 = .ok (.goto 4, 3) := by decide +kernel
theorem dX10_attemptsWith_22 : decode cX10_attemptsWith 22 = .ok (.iconst 0, 1) := by decide +kernel
theorem dX10_attemptsWith_23 : decode cX10_attemptsWith 23 = .ok (.goto 12, 3) := by decide +kernel
def f_X10_attemptsWith (d : MoV) (rc : Int32) : Int32 × MoV := (if (f_X10_isIn rc (0 : Int32) (4 : Int32)) = (0 : Int32) then (let u_8 : MoV := (f_X10_isThrown d (1 : Int32) (1 : Int32)); ((0 : Int32), u_8)) else (let u_4 : MoV := (f_X10_isThrown d (0 : Int32) (1 : Int32)); ((u_4.1 ((6 : Int32) + rc).toNatClampNeg), u_4)))
def ok_X10_attemptsWith (d : MoV) (rc : Int32) : Prop := (if (f_X10_isIn rc (0 : Int32) (4 : Int32)) = (0 : Int32) then True else (let u_4 : MoV := (f_X10_isThrown d (0 : Int32) (1 : Int32)); (vp_in ((6 : Int32) + rc) 249 ∧ True)))
set_option maxHeartbeats 4000000 in
set_option maxRecDepth 100000 in
theorem c_X10_attemptsWith (l : Launch) (G : GG) (dh0 : Nat) (dh1 : Nat) (dh2 : Nat) (dh3 : Nat) (dh4 : Nat) (dh5 : Nat) (dh6 : Nat) (dh7 : Nat) (sz : Nat) (d : MoV) (rc : Int32) (hok : ok_X10_attemptsWith d rc) : wMet l yX10_attemptsWith cX10_attemptsWith 2 (some .int) 2 0 0 G (fl [wMo G dh0 dh1 dh2 dh3 dh4 dh5 dh6 dh7 d]) [.ref dh0, .int rc] sz (fun u : Int32 × MoV => some (.int u.1)) (fun u : Int32 × MoV => u = f_X10_attemptsWith d rc) (fun u : Int32 × MoV => fl [wMo G dh0 dh1 dh2 dh3 dh4 dh5 dh6 dh7 u.2]) := by
  refine w_start (by decide +kernel) (Nat.le_of_ble_eq_true rfl) ?_
  intro p e s m below meth c A hx hb hr hml hts hown hlk hin hP hD hA hK hST ls hl
  have hS : va_S A s.heap s.heap [] := va_S.rf
  have hown : s.vm.findClass RX10 = some m.cls := hown
  have hl : lv_has ls 2 [(0, .ref dh0), (1, .int rc)] := hl
  have hF : f_X10_attemptsWith d rc = (if (f_X10_isIn rc (0 : Int32) (4 : Int32)) = (0 : Int32) then (let u_8 : MoV := (f_X10_isThrown d (1 : Int32) (1 : Int32)); ((0 : Int32), u_8)) else (let u_4 : MoV := (f_X10_isThrown d (0 : Int32) (1 : Int32)); ((u_4.1 ((6 : Int32) + rc).toNatClampNeg), u_4))) := rfl
  have hok : (if (f_X10_isIn rc (0 : Int32) (4 : Int32)) = (0 : Int32) then True else (let u_4 : MoV := (f_X10_isThrown d (0 : Int32) (1 : Int32)); (vp_in ((6 : Int32) + rc) 249 ∧ True))) := hok
  refine lv_aload_n hx hb dX10_attemptsWith_0 rfl (lv_at hl 0 rfl) ?_
  refine lv_iload_n hx hb dX10_attemptsWith_1 rfl (lv_at hl 1 rfl) ?_
  refine lv_iconst (v := (0 : Int32)) hx hb dX10_attemptsWith_2 (by decide) ?_
  refine lv_iconst (v := (4 : Int32)) hx hb dX10_attemptsWith_3 (by decide) ?_
  refine r_S (own := RX10) (v := (some (.int (f_X10_isIn rc (0 : Int32) (4 : Int32))))) (st1 := [.int (f_X10_isIn rc (0 : Int32) (4 : Int32)), .ref dh0]) (As := [.int rc, .int (0 : Int32), .int (4 : Int32)]) (rest := [.ref dh0]) (c_X10_isIn l G rc (0 : Int32) (4 : Int32)) ⟨hx, hb, hml, hown, hts⟩ g_X10_48 hds_X10_isIn hK hST hS hP [] rfl ⟨Nat.le_of_ble_eq_true rfl, Nat.le_of_ble_eq_true rfl⟩ ⟨Nat.le_of_ble_eq_true rfl, Nat.le_of_ble_eq_true rfl⟩ rfl hl.1 rfl (Nat.le_of_ble_eq_true rfl) dX10_attemptsWith_4 rfl (fun b_1 => ?_)
  refine lv_if_ne (tgt := 14) hx hb dX10_attemptsWith_7 (by decide) (fun c_2 => ?_) (fun c_2 => ?_)
  · have hF := hF.trans (if_neg c_2)
    have hok := Eq.mp (if_neg c_2) hok
    refine lv_iconst (v := (0 : Int32)) hx hb dX10_attemptsWith_14 (by decide) ?_
    refine lv_iconst (v := (1 : Int32)) hx hb dX10_attemptsWith_15 (by decide) ?_
    refine w_V (own := RX10) (cs := [wMo G dh0 dh1 dh2 dh3 dh4 dh5 dh6 dh7 d]) (rs := []) (As := [.int (0 : Int32), .int (1 : Int32)]) (rest := []) (c_X10_isThrown l G dh0 dh1 dh2 dh3 dh4 dh5 dh6 dh7 s.heap.size d (0 : Int32) (1 : Int32) (rfl)) ⟨hx, hb, hml, hown, hts⟩ g_X10_63 hdv_X10_isThrown hK hST hS hP hD hA [0] [] rfl rfl rfl (k0 := 0) rfl rfl rfl ⟨Nat.le_of_ble_eq_true rfl, Nat.le_of_ble_eq_true rfl⟩ ⟨Nat.le_of_ble_eq_true rfl, Nat.le_of_ble_eq_true rfl⟩ rfl hl.1 rfl (Nat.le_of_ble_eq_true rfl) dX10_attemptsWith_16 (fun u_4 H locs huu hP hD hS => ?_)
    have eu_4 := huu
    have hP : va_P G.1 vwCl (fl [wMo G dh0 dh1 dh2 dh3 dh4 dh5 dh6 dh7 u_4]) H := hP
    have hD : va_D A (fl [wMo G dh0 dh1 dh2 dh3 dh4 dh5 dh6 dh7 u_4]) := hD
    refine W.eq (g2 := F0 m 19 ls [.int (0 : Int32)]) rfl ?_
    have hF : f_X10_attemptsWith d rc = ((u_4.1 ((6 : Int32) + rc).toNatClampNeg), u_4) := by subst eu_4; exact hF
    have hok : (vp_in ((6 : Int32) + rc) 249 ∧ True) := by subst eu_4; exact hok
    refine lv_if_eq (tgt := 26) hx hb dX10_attemptsWith_19 (by decide) (fun c_5 => ?_) (fun c_5 => ?_)
    · refine lv_aload_n hx hb dX10_attemptsWith_26 rfl (lv_at hl 0 rfl) ?_
      refine va_get (D := G.1) (ci := 12) (v := .ref dh1) (C := RX10) (T := TX10) (N := 17) hx hb hts uws_X10 hown hK hP 0 rfl rfl 0 (by decide) (hts _ u_1680) (fun _ h9 => h9) rfl dX10_attemptsWith_27 ?_
      refine lv_bipush (v := (6 : Int32)) hx hb dX10_attemptsWith_30 (by decide) ?_
      refine lv_iload_n hx hb dX10_attemptsWith_32 rfl (lv_at hl 1 rfl) ?_
      refine lv_iadd hx hb dX10_attemptsWith_33 ?_
      have h_6 := hok.1
      have hok := hok.2
      refine va_iald hx hb hK hP 1 0 rfl rfl h_6 dX10_attemptsWith_34 ?_
      exact w_ret (u := ((u_4.1 ((6 : Int32) + rc).toNatClampNeg), u_4)) hx hb hr hlk rfl hS rfl hF.symm hP hD (Nat.le_of_ble_eq_true rfl) (Nat.le_of_ble_eq_true rfl) dX10_attemptsWith_35
    · exact absurd c_5 (by decide)
  · have hF := hF.trans (if_pos c_2)
    have hok := Eq.mp (if_pos c_2) hok
    refine lv_iconst (v := (1 : Int32)) hx hb dX10_attemptsWith_10 (by decide) ?_
    refine lv_goto (tgt := 15) hx hb dX10_attemptsWith_11 (by decide) ?_
    refine lv_iconst (v := (1 : Int32)) hx hb dX10_attemptsWith_15 (by decide) ?_
    refine w_V (own := RX10) (cs := [wMo G dh0 dh1 dh2 dh3 dh4 dh5 dh6 dh7 d]) (rs := []) (As := [.int (1 : Int32), .int (1 : Int32)]) (rest := []) (c_X10_isThrown l G dh0 dh1 dh2 dh3 dh4 dh5 dh6 dh7 s.heap.size d (1 : Int32) (1 : Int32) (rfl)) ⟨hx, hb, hml, hown, hts⟩ g_X10_63 hdv_X10_isThrown hK hST hS hP hD hA [0] [] rfl rfl rfl (k0 := 0) rfl rfl rfl ⟨Nat.le_of_ble_eq_true rfl, Nat.le_of_ble_eq_true rfl⟩ ⟨Nat.le_of_ble_eq_true rfl, Nat.le_of_ble_eq_true rfl⟩ rfl hl.1 rfl (Nat.le_of_ble_eq_true rfl) dX10_attemptsWith_16 (fun u_8 H locs huu hP hD hS => ?_)
    have eu_8 := huu
    have hP : va_P G.1 vwCl (fl [wMo G dh0 dh1 dh2 dh3 dh4 dh5 dh6 dh7 u_8]) H := hP
    have hD : va_D A (fl [wMo G dh0 dh1 dh2 dh3 dh4 dh5 dh6 dh7 u_8]) := hD
    refine W.eq (g2 := F0 m 19 ls [.int (1 : Int32)]) rfl ?_
    have hF : f_X10_attemptsWith d rc = ((0 : Int32), u_8) := by subst eu_8; exact hF
    refine lv_if_eq (tgt := 26) hx hb dX10_attemptsWith_19 (by decide) (fun c_9 => ?_) (fun c_9 => ?_)
    · exact absurd c_9 (by decide)
    · refine lv_iconst (v := (0 : Int32)) hx hb dX10_attemptsWith_22 (by decide) ?_
      refine lv_goto (tgt := 35) hx hb dX10_attemptsWith_23 (by decide) ?_
      exact w_ret (u := ((0 : Int32), u_8)) hx hb hr hlk rfl hS rfl hF.symm hP hD (Nat.le_of_ble_eq_true rfl) (Nat.le_of_ble_eq_true rfl) dX10_attemptsWith_35
theorem dX10_attempts_0 : decode cX10_attempts 0 = .ok (.iconst 0, 1) := by decide +kernel
theorem dX10_attempts_1 : decode cX10_attempts 1 = .ok (.istore_n 1, 1) := by decide +kernel
theorem dX10_attempts_2 : decode cX10_attempts 2 = .ok (.iconst 0, 1) := by decide +kernel
theorem dX10_attempts_3 : decode cX10_attempts 3 = .ok (.istore_n 2, 1) := by decide +kernel
theorem dX10_attempts_4 : decode cX10_attempts 4 = .ok (.iload_n 2, 1) := by decide +kernel
theorem dX10_attempts_5 : decode cX10_attempts 5 = .ok (.iconst 5, 1) := by decide +kernel
theorem dX10_attempts_6 : decode cX10_attempts 6 = .ok (.if_icmp .ge 21, 3) := by decide +kernel
theorem dX10_attempts_27 : decode cX10_attempts 27 = .ok (.iload_n 1, 1) := by decide +kernel
theorem dX10_attempts_28 : decode cX10_attempts 28 = .ok (.ireturn, 1) := by decide +kernel
theorem dX10_attempts_9 : decode cX10_attempts 9 = .ok (.iload_n 1, 1) := by decide +kernel
theorem dX10_attempts_10 : decode cX10_attempts 10 = .ok (.aload_n 0, 1) := by decide +kernel
theorem dX10_attempts_11 : decode cX10_attempts 11 = .ok (.getfield 9, 3) := by decide +kernel
theorem dX10_attempts_14 : decode cX10_attempts 14 = .ok (.bipush 6, 2) := by decide +kernel
theorem dX10_attempts_16 : decode cX10_attempts 16 = .ok (.iload_n 2, 1) := by decide +kernel
theorem dX10_attempts_17 : decode cX10_attempts 17 = .ok (.iadd, 1) := by decide +kernel
theorem dX10_attempts_18 : decode cX10_attempts 18 = .ok (.iaload, 1) := by decide +kernel
theorem dX10_attempts_19 : decode cX10_attempts 19 = .ok (.iadd, 1) := by decide +kernel
theorem dX10_attempts_20 : decode cX10_attempts 20 = .ok (.istore_n 1, 1) := by decide +kernel
theorem dX10_attempts_21 : decode cX10_attempts 21 = .ok (.iinc 2 1, 3) := by decide +kernel
theorem dX10_attempts_24 : decode cX10_attempts 24 = .ok (.goto (-20), 3) := by decide +kernel
def lp_X10_attempts_4 (d : MoV) : Nat → Int32 → Int32 → Int32
  | 0, _, _ => 0
  | n + 1, x2, x1 => (if (5 : Int32) ≤ x2 then x1 else (lp_X10_attempts_4 d n (x2 + 1) (x1 + (d.1 ((6 : Int32) + x2).toNatClampNeg))))
def okl_lp_X10_attempts_4 (d : MoV) : Nat → Int32 → Int32 → Prop
  | 0, _, _ => True
  | n + 1, x2, x1 => (if (5 : Int32) ≤ x2 then True else (vp_in ((6 : Int32) + x2) 249 ∧ (okl_lp_X10_attempts_4 d n (x2 + 1) (x1 + (d.1 ((6 : Int32) + x2).toNatClampNeg)))))
def f_X10_attempts (d : MoV) : Int32 := (lp_X10_attempts_4 d ((((5 : Int32)).toInt - ((0 : Int32)).toInt).toNat + 1) (0 : Int32) (0 : Int32))
def ok_X10_attempts (d : MoV) : Prop := (okl_lp_X10_attempts_4 d ((((5 : Int32)).toInt - ((0 : Int32)).toInt).toNat + 1) (0 : Int32) (0 : Int32))
set_option maxHeartbeats 4000000 in
set_option maxRecDepth 100000 in
theorem c_X10_attempts (l : Launch) (G : GG) (dh0 : Nat) (dh1 : Nat) (dh2 : Nat) (dh3 : Nat) (dh4 : Nat) (dh5 : Nat) (dh6 : Nat) (dh7 : Nat) (d : MoV) (hok : ok_X10_attempts d) : rMet l yX10_attempts cX10_attempts 3 (some .int) 1 G (fl [wMo G dh0 dh1 dh2 dh3 dh4 dh5 dh6 dh7 d]) [.ref dh0] (some (.int (f_X10_attempts d))) (True) := by
  refine r_start (by decide +kernel) (Nat.le_of_ble_eq_true rfl) ?_
  intro p e s m below meth c hx hb hr hml hts hown hlk hP hK hST ls hl
  have hS : va_S (fun _ => False) s.heap s.heap [] := va_S.rf
  have hown : s.vm.findClass RX10 = some m.cls := hown
  have hl : lv_has ls 3 [(0, .ref dh0)] := hl
  have hF : f_X10_attempts d = (lp_X10_attempts_4 d ((((5 : Int32)).toInt - ((0 : Int32)).toInt).toNat + 1) (0 : Int32) (0 : Int32)) := rfl
  have hok : (okl_lp_X10_attempts_4 d ((((5 : Int32)).toInt - ((0 : Int32)).toInt).toNat + 1) (0 : Int32) (0 : Int32)) := hok
  refine lv_iconst (v := (0 : Int32)) hx hb dX10_attempts_0 (by decide) ?_
  refine lv_istore_n (lv' := [(1, .int (0 : Int32)), (0, .ref dh0)]) hx hb dX10_attempts_1 rfl hl (by decide) rfl (fun ls hl => ?_)
  refine lv_iconst (v := (0 : Int32)) hx hb dX10_attempts_2 (by decide) ?_
  refine lv_istore_n (lv' := [(2, .int (0 : Int32)), (1, .int (0 : Int32)), (0, .ref dh0)]) hx hb dX10_attempts_3 rfl hl (by decide) rfl (fun ls hl => ?_)
  have L4 : ∀ (n : Nat) (x2 : Int32) (x1 : Int32) (ls : Array Slot), lv_has ls 3 [(2, .int x2), (1, .int x1), (0, .ref dh0)] → (upI x2 (5 : Int32) n) → f_X10_attempts d = lp_X10_attempts_4 d n x2 x1 → okl_lp_X10_attempts_4 d n x2 x1 → W p l e (rmd 1 0 0) s m ([.ref dh0] : List Value).toArray below meth c s.heap [] 0 0 (MQ below (rQ (some (.int (f_X10_attempts d))) (True)) ([.ref dh0] : List Value).toArray s 0 0 (fun _ => False)) (F0 m 4 ls []) := by
    intro n
    induction n with
    | zero => intro x2 x1 ls hl hu; exact absurd hu (upI_0)
    | succ n ih =>
      intro x2 x1 ls hl hu hF hok
      have hF : f_X10_attempts d = (if (5 : Int32) ≤ x2 then x1 else (lp_X10_attempts_4 d n (x2 + 1) (x1 + (d.1 ((6 : Int32) + x2).toNatClampNeg)))) := hF
      have hok : (if (5 : Int32) ≤ x2 then True else (vp_in ((6 : Int32) + x2) 249 ∧ (okl_lp_X10_attempts_4 d n (x2 + 1) (x1 + (d.1 ((6 : Int32) + x2).toNatClampNeg))))) := hok
      refine lv_iload_n hx hb dX10_attempts_4 rfl (lv_at hl 0 rfl) ?_
      refine lv_iconst (v := (5 : Int32)) hx hb dX10_attempts_5 (by decide) ?_
      refine lv_icmp_ge (tgt := 27) hx hb dX10_attempts_6 (by decide) (fun c_1 => ?_) (fun c_1 => ?_)
      · have hF := hF.trans (if_pos c_1)
        have hok := Eq.mp (if_pos c_1) hok
        refine lv_iload_n hx hb dX10_attempts_27 rfl (lv_at hl 1 rfl) ?_
        exact r_ret hx hb hr hlk rfl (by rw [hF]) trivial dX10_attempts_28
      · have hF := hF.trans (if_neg c_1)
        have hok := Eq.mp (if_neg c_1) hok
        refine lv_iload_n hx hb dX10_attempts_9 rfl (lv_at hl 1 rfl) ?_
        refine lv_aload_n hx hb dX10_attempts_10 rfl (lv_at hl 2 rfl) ?_
        refine va_get (D := G.1) (ci := 12) (v := .ref dh1) (C := RX10) (T := TX10) (N := 17) hx hb hts uws_X10 hown hK hP 0 rfl rfl 0 (by decide) (hts _ u_1680) (fun _ h9 => h9) rfl dX10_attempts_11 ?_
        refine lv_bipush (v := (6 : Int32)) hx hb dX10_attempts_14 (by decide) ?_
        refine lv_iload_n hx hb dX10_attempts_16 rfl (lv_at hl 0 rfl) ?_
        refine lv_iadd hx hb dX10_attempts_17 ?_
        have h_2 := hok.1
        have hok := hok.2
        refine va_iald hx hb hK hP 1 0 rfl rfl h_2 dX10_attempts_18 ?_
        refine lv_iadd hx hb dX10_attempts_19 ?_
        refine lv_istore_n (lv' := [(1, .int (x1 + (d.1 ((6 : Int32) + x2).toNatClampNeg))), (2, .int x2), (0, .ref dh0)]) hx hb dX10_attempts_20 rfl hl (by decide) rfl (fun ls hl => ?_)
        refine lv_iinc (v := (x2 + 1)) (lv' := [(2, .int (x2 + 1)), (1, .int (x1 + (d.1 ((6 : Int32) + x2).toNatClampNeg))), (0, .ref dh0)]) hx hb dX10_attempts_21 hl (k := 1) rfl rfl (by decide) rfl (fun ls hl => ?_)
        refine lv_goto (tgt := 4) hx hb dX10_attempts_24 (by decide) ?_
        exact ih (x2 + 1) (x1 + (d.1 ((6 : Int32) + x2).toNatClampNeg)) ls (lv_sub hl [0, 1, 2] rfl) (upI_s (Int32.not_le.mp c_1) hu) hF hok
  exact L4 ((((5 : Int32)).toInt - ((0 : Int32)).toInt).toNat + 1) (0 : Int32) (0 : Int32) ls (lv_sub hl [0, 1, 2] rfl) (upI_i) hF hok
